/-! the law: its calls, one by one (written by wip/tools/gens.py) -/
section LWA
variable {G : gv_G} {d n g cap : Nat} {acc : Nat × Nat} {μ : Nat → Nat → Int32} {i kk b w : Int32} {r : gv_O} {hf h h1 h2 : gv_H} {l5 l6 : Option gv_V}
theorem lg_cmp0 {x y : Int32} (e : x = y) : lg_cmp x.toInt64 y.toInt64 = 0 := by
  subst e
  unfold lg_cmp
  rw [if_neg (Int64.lt_irrefl), if_pos rfl]
theorem lt_put (h1 : μ 70 0 = kk) (h2 : kk = 0 → μ 98 0 = b) (K : gv_go G M_LA_law (d + 1) r hf 492 [some (gR 0), some (gR 1), some (gR 70), some (gR 98), some (gI i), some (gI kk), some (gI b)] [] (hp n acc g cap μ)) : gv_go G M_LA_law (d + 1) r hf 117 [some (gR 0), some (gR 1), some (gR 70), some (gR 98), some (gI i), some (gI kk), some (gI b)] [] (hp n acc g cap μ) := by
  refine gv_B ok_LA_law 1 rfl ?_
  refine gv_Vc ok_LA_law rfl mk_MO_thrown rfl (m_thrown (d := d)) rfl rfl (Nat.le_of_ble_eq_true rfl) rfl rfl rfl ?_
  refine gv_B ok_LA_law 2 rfl ?_
  refine gv_brT h1 ?_
  refine gv_B ok_LA_law 2 rfl ?_
  refine gv_br (fun c => ?_) (fun c => ?_)
  · refine gv_B ok_LA_law 1 rfl ?_
    exact K
  · refine gv_B ok_LA_law 6 rfl ?_
    refine gv_st1 (x' := 0) (lg_cmp0 (h2 (Decidable.not_not.mp c))) ?_
    refine gv_B ok_LA_law 2 rfl ?_
    exact K
theorem lh_putE (hi : vp_in (i + 1) G.2.2.2.2.2.2.1) (hw : G.2.2.2.2.2.2.2 (i + 1).toNatClampNeg = w) (hH : gv_ev G d M_LA_put [gR 1, gI w, gR 98] h (.inl (some (gI kk))) h1) (hM : gv_ev G d M_MO_put [gR 70, gI w] h1 (.inl (some (gI b))) h2) {fs : List gv_V} (ho : h1.2.2 70 = some (Sum.inr (12, fs))) (K : gv_go G M_LA_law (d + 1) r hf 117 [some (gR 0), some (gR 1), some (gR 70), some (gR 98), some (gI i), some (gI kk), some (gI b)] [] h2) : gv_go G M_LA_law (d + 1) r hf 92 [some (gR 0), some (gR 1), some (gR 70), some (gR 98), some (gI i), l5, l6] [] h := by
  subst hw
  refine gv_B ok_LA_law 5 rfl ?_
  refine gv_sld ok_LA_law rfl hi ?_
  refine gv_B ok_LA_law 1 rfl ?_
  refine gv_Sc ok_LA_law rfl mk_LA_put rfl hH rfl rfl (Nat.le_of_ble_eq_true rfl) ?_
  refine gv_B ok_LA_law 6 rfl ?_
  refine gv_sld ok_LA_law rfl hi ?_
  refine gv_Vc ok_LA_law rfl mk_MO_put rfl hM rfl rfl (Nat.le_of_ble_eq_true rfl) ho rfl rfl ?_
  refine gv_B ok_LA_law 1 rfl ?_
  exact K
theorem lh_putL (hi : vp_in (i + 1) G.2.2.2.2.2.2.1) (hw : G.2.2.2.2.2.2.2 (i + 1).toNatClampNeg = w) {h2 : Nat → gv_H} (hH : gv_ev G d M_LA_put [gR 1, gI w, gR 98] h (.inr (.inr (some (some (gI kk))))) h1) (hM : ∀ δ : Nat, gv_ev G d M_MO_put [gR 70, gI w] (h1.1 + δ, h1.2) (.inl (some (gI b))) (h2 δ)) {fs : List gv_V} (ho : h1.2.2 70 = some (Sum.inr (12, fs))) (K : ∀ δ : Nat, gv_go G M_LA_law (d + 1) r hf 117 [some (gR 0), some (gR 1), some (gR 70), some (gR 98), some (gI i), some (gI kk), some (gI b)] [] (h2 δ)) : gv_go G M_LA_law (d + 1) r hf 92 [some (gR 0), some (gR 1), some (gR 70), some (gR 98), some (gI i), l5, l6] [] h := by
  subst hw
  refine gv_B ok_LA_law 5 rfl ?_
  refine gv_sld ok_LA_law rfl hi ?_
  refine gv_B ok_LA_law 1 rfl ?_
  refine gv_SL ok_LA_law rfl mk_LA_put rfl hH rfl rfl (Nat.le_of_ble_eq_true rfl) (fun δ => ?_)
  refine gv_B ok_LA_law 6 rfl ?_
  refine gv_sld ok_LA_law rfl hi ?_
  refine gv_Vc ok_LA_law rfl mk_MO_put rfl (hM δ) rfl rfl (Nat.le_of_ble_eq_true rfl) ho rfl rfl ?_
  refine gv_B ok_LA_law 1 rfl ?_
  exact K δ
theorem lt_rule (h1 : μ 70 0 = kk) (h2 : kk = 0 → μ 98 0 = b) (K : gv_go G M_LA_law (d + 1) r hf 492 [some (gR 0), some (gR 1), some (gR 70), some (gR 98), some (gI i), some (gI kk), some (gI b)] [] (hp n acc g cap μ)) : gv_go G M_LA_law (d + 1) r hf 161 [some (gR 0), some (gR 1), some (gR 70), some (gR 98), some (gI i), some (gI kk), some (gI b)] [] (hp n acc g cap μ) := by
  refine gv_B ok_LA_law 1 rfl ?_
  refine gv_Vc ok_LA_law rfl mk_MO_thrown rfl (m_thrown (d := d)) rfl rfl (Nat.le_of_ble_eq_true rfl) rfl rfl rfl ?_
  refine gv_B ok_LA_law 2 rfl ?_
  refine gv_brT h1 ?_
  refine gv_B ok_LA_law 2 rfl ?_
  refine gv_br (fun c => ?_) (fun c => ?_)
  · refine gv_B ok_LA_law 1 rfl ?_
    exact K
  · refine gv_B ok_LA_law 6 rfl ?_
    refine gv_st1 (x' := 0) (lg_cmp0 (h2 (Decidable.not_not.mp c))) ?_
    refine gv_B ok_LA_law 2 rfl ?_
    exact K
theorem lh_ruleE (hH : gv_ev G d M_LA_rule [gR 1, gR 98] h (.inl (some (gI kk))) h1) (hM : gv_ev G d M_MO_rule [gR 70] h1 (.inl (some (gI b))) h2) {fs : List gv_V} (ho : h1.2.2 70 = some (Sum.inr (12, fs))) (K : gv_go G M_LA_law (d + 1) r hf 161 [some (gR 0), some (gR 1), some (gR 70), some (gR 98), some (gI i), some (gI kk), some (gI b)] [] h2) : gv_go G M_LA_law (d + 1) r hf 148 [some (gR 0), some (gR 1), some (gR 70), some (gR 98), some (gI i), l5, l6] [] h := by
  refine gv_B ok_LA_law 2 rfl ?_
  refine gv_Sc ok_LA_law rfl mk_LA_rule rfl hH rfl rfl (Nat.le_of_ble_eq_true rfl) ?_
  refine gv_B ok_LA_law 2 rfl ?_
  refine gv_Vc ok_LA_law rfl mk_MO_rule rfl hM rfl rfl (Nat.le_of_ble_eq_true rfl) ho rfl rfl ?_
  refine gv_B ok_LA_law 1 rfl ?_
  exact K
theorem lh_ruleL {h2 : Nat → gv_H} (hH : gv_ev G d M_LA_rule [gR 1, gR 98] h (.inr (.inr (some (some (gI kk))))) h1) (hM : ∀ δ : Nat, gv_ev G d M_MO_rule [gR 70] (h1.1 + δ, h1.2) (.inl (some (gI b))) (h2 δ)) {fs : List gv_V} (ho : h1.2.2 70 = some (Sum.inr (12, fs))) (K : ∀ δ : Nat, gv_go G M_LA_law (d + 1) r hf 161 [some (gR 0), some (gR 1), some (gR 70), some (gR 98), some (gI i), some (gI kk), some (gI b)] [] (h2 δ)) : gv_go G M_LA_law (d + 1) r hf 148 [some (gR 0), some (gR 1), some (gR 70), some (gR 98), some (gI i), l5, l6] [] h := by
  refine gv_B ok_LA_law 2 rfl ?_
  refine gv_SL ok_LA_law rfl mk_LA_rule rfl hH rfl rfl (Nat.le_of_ble_eq_true rfl) (fun δ => ?_)
  refine gv_B ok_LA_law 2 rfl ?_
  refine gv_Vc ok_LA_law rfl mk_MO_rule rfl (hM δ) rfl rfl (Nat.le_of_ble_eq_true rfl) ho rfl rfl ?_
  refine gv_B ok_LA_law 1 rfl ?_
  exact K δ
theorem lt_ask (h1 : μ 70 0 = kk) (h2 : kk = 0 → μ 98 0 = b) (K : gv_go G M_LA_law (d + 1) r hf 492 [some (gR 0), some (gR 1), some (gR 70), some (gR 98), some (gI i), some (gI kk), some (gI b)] [] (hp n acc g cap μ)) : gv_go G M_LA_law (d + 1) r hf 205 [some (gR 0), some (gR 1), some (gR 70), some (gR 98), some (gI i), some (gI kk), some (gI b)] [] (hp n acc g cap μ) := by
  refine gv_B ok_LA_law 1 rfl ?_
  refine gv_Vc ok_LA_law rfl mk_MO_thrown rfl (m_thrown (d := d)) rfl rfl (Nat.le_of_ble_eq_true rfl) rfl rfl rfl ?_
  refine gv_B ok_LA_law 2 rfl ?_
  refine gv_brT h1 ?_
  refine gv_B ok_LA_law 2 rfl ?_
  refine gv_br (fun c => ?_) (fun c => ?_)
  · refine gv_B ok_LA_law 1 rfl ?_
    exact K
  · refine gv_B ok_LA_law 6 rfl ?_
    refine gv_st1 (x' := 0) (lg_cmp0 (h2 (Decidable.not_not.mp c))) ?_
    refine gv_B ok_LA_law 2 rfl ?_
    exact K
theorem lh_askE (hH : gv_ev G d M_LA_ask [gR 1, gR 98] h (.inl (some (gI kk))) h1) (hM : gv_ev G d M_MO_ask [gR 70] h1 (.inl (some (gI b))) h2) {fs : List gv_V} (ho : h1.2.2 70 = some (Sum.inr (12, fs))) (K : gv_go G M_LA_law (d + 1) r hf 205 [some (gR 0), some (gR 1), some (gR 70), some (gR 98), some (gI i), some (gI kk), some (gI b)] [] h2) : gv_go G M_LA_law (d + 1) r hf 192 [some (gR 0), some (gR 1), some (gR 70), some (gR 98), some (gI i), l5, l6] [] h := by
  refine gv_B ok_LA_law 2 rfl ?_
  refine gv_Sc ok_LA_law rfl mk_LA_ask rfl hH rfl rfl (Nat.le_of_ble_eq_true rfl) ?_
  refine gv_B ok_LA_law 2 rfl ?_
  refine gv_Vc ok_LA_law rfl mk_MO_ask rfl hM rfl rfl (Nat.le_of_ble_eq_true rfl) ho rfl rfl ?_
  refine gv_B ok_LA_law 1 rfl ?_
  exact K
theorem lh_askL {h2 : Nat → gv_H} (hH : gv_ev G d M_LA_ask [gR 1, gR 98] h (.inr (.inr (some (some (gI kk))))) h1) (hM : ∀ δ : Nat, gv_ev G d M_MO_ask [gR 70] (h1.1 + δ, h1.2) (.inl (some (gI b))) (h2 δ)) {fs : List gv_V} (ho : h1.2.2 70 = some (Sum.inr (12, fs))) (K : ∀ δ : Nat, gv_go G M_LA_law (d + 1) r hf 205 [some (gR 0), some (gR 1), some (gR 70), some (gR 98), some (gI i), some (gI kk), some (gI b)] [] (h2 δ)) : gv_go G M_LA_law (d + 1) r hf 192 [some (gR 0), some (gR 1), some (gR 70), some (gR 98), some (gI i), l5, l6] [] h := by
  refine gv_B ok_LA_law 2 rfl ?_
  refine gv_SL ok_LA_law rfl mk_LA_ask rfl hH rfl rfl (Nat.le_of_ble_eq_true rfl) (fun δ => ?_)
  refine gv_B ok_LA_law 2 rfl ?_
  refine gv_Vc ok_LA_law rfl mk_MO_ask rfl (hM δ) rfl rfl (Nat.le_of_ble_eq_true rfl) ho rfl rfl ?_
  refine gv_B ok_LA_law 1 rfl ?_
  exact K δ
theorem lt_solve (h1 : μ 70 0 = kk) (h2 : kk = 0 → μ 98 0 = b) (K : gv_go G M_LA_law (d + 1) r hf 492 [some (gR 0), some (gR 1), some (gR 70), some (gR 98), some (gI i), some (gI kk), some (gI b)] [] (hp n acc g cap μ)) : gv_go G M_LA_law (d + 1) r hf 261 [some (gR 0), some (gR 1), some (gR 70), some (gR 98), some (gI i), some (gI kk), some (gI b)] [] (hp n acc g cap μ) := by
  refine gv_B ok_LA_law 1 rfl ?_
  refine gv_Vc ok_LA_law rfl mk_MO_thrown rfl (m_thrown (d := d)) rfl rfl (Nat.le_of_ble_eq_true rfl) rfl rfl rfl ?_
  refine gv_B ok_LA_law 2 rfl ?_
  refine gv_brT h1 ?_
  refine gv_B ok_LA_law 2 rfl ?_
  refine gv_br (fun c => ?_) (fun c => ?_)
  · refine gv_B ok_LA_law 1 rfl ?_
    exact K
  · refine gv_B ok_LA_law 6 rfl ?_
    refine gv_st1 (x' := 0) (lg_cmp0 (h2 (Decidable.not_not.mp c))) ?_
    refine gv_B ok_LA_law 2 rfl ?_
    exact K
theorem lh_solveE (hi : vp_in (i + 1) G.2.2.2.2.2.2.1) (hw : G.2.2.2.2.2.2.2 (i + 1).toNatClampNeg = w) (hH : gv_ev G d M_LA_solve [gR 1, gI w, gR 98] h (.inl (some (gI kk))) h1) (hM : gv_ev G d M_MO_solve [gR 70, gI w] h1 (.inl (some (gI b))) h2) {fs : List gv_V} (ho : h1.2.2 70 = some (Sum.inr (12, fs))) (K : gv_go G M_LA_law (d + 1) r hf 261 [some (gR 0), some (gR 1), some (gR 70), some (gR 98), some (gI i), some (gI kk), some (gI b)] [] h2) : gv_go G M_LA_law (d + 1) r hf 236 [some (gR 0), some (gR 1), some (gR 70), some (gR 98), some (gI i), l5, l6] [] h := by
  subst hw
  refine gv_B ok_LA_law 5 rfl ?_
  refine gv_sld ok_LA_law rfl hi ?_
  refine gv_B ok_LA_law 1 rfl ?_
  refine gv_Sc ok_LA_law rfl mk_LA_solve rfl hH rfl rfl (Nat.le_of_ble_eq_true rfl) ?_
  refine gv_B ok_LA_law 6 rfl ?_
  refine gv_sld ok_LA_law rfl hi ?_
  refine gv_Vc ok_LA_law rfl mk_MO_solve rfl hM rfl rfl (Nat.le_of_ble_eq_true rfl) ho rfl rfl ?_
  refine gv_B ok_LA_law 1 rfl ?_
  exact K
theorem lh_solveL (hi : vp_in (i + 1) G.2.2.2.2.2.2.1) (hw : G.2.2.2.2.2.2.2 (i + 1).toNatClampNeg = w) {h2 : Nat → gv_H} (hH : gv_ev G d M_LA_solve [gR 1, gI w, gR 98] h (.inr (.inr (some (some (gI kk))))) h1) (hM : ∀ δ : Nat, gv_ev G d M_MO_solve [gR 70, gI w] (h1.1 + δ, h1.2) (.inl (some (gI b))) (h2 δ)) {fs : List gv_V} (ho : h1.2.2 70 = some (Sum.inr (12, fs))) (K : ∀ δ : Nat, gv_go G M_LA_law (d + 1) r hf 261 [some (gR 0), some (gR 1), some (gR 70), some (gR 98), some (gI i), some (gI kk), some (gI b)] [] (h2 δ)) : gv_go G M_LA_law (d + 1) r hf 236 [some (gR 0), some (gR 1), some (gR 70), some (gR 98), some (gI i), l5, l6] [] h := by
  subst hw
  refine gv_B ok_LA_law 5 rfl ?_
  refine gv_sld ok_LA_law rfl hi ?_
  refine gv_B ok_LA_law 1 rfl ?_
  refine gv_SL ok_LA_law rfl mk_LA_solve rfl hH rfl rfl (Nat.le_of_ble_eq_true rfl) (fun δ => ?_)
  refine gv_B ok_LA_law 6 rfl ?_
  refine gv_sld ok_LA_law rfl hi ?_
  refine gv_Vc ok_LA_law rfl mk_MO_solve rfl (hM δ) rfl rfl (Nat.le_of_ble_eq_true rfl) ho rfl rfl ?_
  refine gv_B ok_LA_law 1 rfl ?_
  exact K δ
theorem lt_next (hb : b = 0 ∨ b = 1) (h1 : μ 70 0 = kk) (h2 : kk = 0 → μ 98 0 = b) (K : gv_go G M_LA_law (d + 1) r hf 492 [some (gR 0), some (gR 1), some (gR 70), some (gR 98), some (gI i), some (gI kk), some (gI b)] [] (hp n acc g cap μ)) : gv_go G M_LA_law (d + 1) r hf 305 [some (gR 0), some (gR 1), some (gR 70), some (gR 98), some (gI i), some (gI kk), some (gI b)] [] (hp n acc g cap μ) := by
  refine gv_B ok_LA_law 1 rfl ?_
  refine gv_Vc ok_LA_law rfl mk_MO_thrown rfl (m_thrown (d := d)) rfl rfl (Nat.le_of_ble_eq_true rfl) rfl rfl rfl ?_
  refine gv_B ok_LA_law 2 rfl ?_
  refine gv_brT h1 ?_
  refine gv_B ok_LA_law 2 rfl ?_
  refine gv_br (fun c => ?_) (fun c => ?_)
  · refine gv_B ok_LA_law 1 rfl ?_
    exact K
  · rcases hb with hb | hb
    · subst hb
      refine gv_B ok_LA_law 7 rfl ?_
      refine gv_st1 (x' := 0) (lg_cmp0 (y := 0) (h2 (Decidable.not_not.mp c))) ?_
      refine gv_B ok_LA_law 2 rfl ?_
      exact K
    · subst hb
      refine gv_B ok_LA_law 8 rfl ?_
      refine gv_st1 (x' := 0) (lg_cmp0 (y := 1) (h2 (Decidable.not_not.mp c))) ?_
      refine gv_B ok_LA_law 2 rfl ?_
      exact K
theorem lh_nextE (hH : gv_ev G d M_LA_next [gR 1, gR 98] h (.inl (some (gI kk))) h1) (hM : gv_ev G d M_MO_next [gR 70] h1 (.inl (some (gI b))) h2) {fs : List gv_V} (ho : h1.2.2 70 = some (Sum.inr (12, fs))) (K : gv_go G M_LA_law (d + 1) r hf 305 [some (gR 0), some (gR 1), some (gR 70), some (gR 98), some (gI i), some (gI kk), some (gI b)] [] h2) : gv_go G M_LA_law (d + 1) r hf 292 [some (gR 0), some (gR 1), some (gR 70), some (gR 98), some (gI i), l5, l6] [] h := by
  refine gv_B ok_LA_law 2 rfl ?_
  refine gv_Sc ok_LA_law rfl mk_LA_next rfl hH rfl rfl (Nat.le_of_ble_eq_true rfl) ?_
  refine gv_B ok_LA_law 2 rfl ?_
  refine gv_Vc ok_LA_law rfl mk_MO_next rfl hM rfl rfl (Nat.le_of_ble_eq_true rfl) ho rfl rfl ?_
  refine gv_B ok_LA_law 1 rfl ?_
  exact K
theorem lh_nextL {h2 : Nat → gv_H} (hH : gv_ev G d M_LA_next [gR 1, gR 98] h (.inr (.inr (some (some (gI kk))))) h1) (hM : ∀ δ : Nat, gv_ev G d M_MO_next [gR 70] (h1.1 + δ, h1.2) (.inl (some (gI b))) (h2 δ)) {fs : List gv_V} (ho : h1.2.2 70 = some (Sum.inr (12, fs))) (K : ∀ δ : Nat, gv_go G M_LA_law (d + 1) r hf 305 [some (gR 0), some (gR 1), some (gR 70), some (gR 98), some (gI i), some (gI kk), some (gI b)] [] (h2 δ)) : gv_go G M_LA_law (d + 1) r hf 292 [some (gR 0), some (gR 1), some (gR 70), some (gR 98), some (gI i), l5, l6] [] h := by
  refine gv_B ok_LA_law 2 rfl ?_
  refine gv_SL ok_LA_law rfl mk_LA_next rfl hH rfl rfl (Nat.le_of_ble_eq_true rfl) (fun δ => ?_)
  refine gv_B ok_LA_law 2 rfl ?_
  refine gv_Vc ok_LA_law rfl mk_MO_next rfl (hM δ) rfl rfl (Nat.le_of_ble_eq_true rfl) ho rfl rfl ?_
  refine gv_B ok_LA_law 1 rfl ?_
  exact K δ
theorem lt_count (h1 : μ 70 0 = kk) (h2 : kk = 0 → μ 98 0 = b) (K : gv_go G M_LA_law (d + 1) r hf 492 [some (gR 0), some (gR 1), some (gR 70), some (gR 98), some (gI i), some (gI kk), some (gI b)] [] (hp n acc g cap μ)) : gv_go G M_LA_law (d + 1) r hf 392 [some (gR 0), some (gR 1), some (gR 70), some (gR 98), some (gI i), some (gI kk), some (gI b)] [] (hp n acc g cap μ) := by
  refine gv_B ok_LA_law 1 rfl ?_
  refine gv_Vc ok_LA_law rfl mk_MO_thrown rfl (m_thrown (d := d)) rfl rfl (Nat.le_of_ble_eq_true rfl) rfl rfl rfl ?_
  refine gv_B ok_LA_law 2 rfl ?_
  refine gv_brT h1 ?_
  refine gv_B ok_LA_law 2 rfl ?_
  refine gv_br (fun c => ?_) (fun c => ?_)
  · refine gv_B ok_LA_law 1 rfl ?_
    exact K
  · refine gv_B ok_LA_law 6 rfl ?_
    refine gv_st1 (x' := 0) (lg_cmp0 (h2 (Decidable.not_not.mp c))) ?_
    refine gv_B ok_LA_law 2 rfl ?_
    exact K
theorem lh_countE (hi : vp_in (i + 1) G.2.2.2.2.2.2.1) (hw : G.2.2.2.2.2.2.2 (i + 1).toNatClampNeg = w) (hH : gv_ev G d M_LA_count [gR 1, gI w, gR 98] h (.inl (some (gI kk))) h1) (hM : gv_ev G d M_MO_count [gR 70, gI w] h1 (.inl (some (gI b))) h2) {fs : List gv_V} (ho : h1.2.2 70 = some (Sum.inr (12, fs))) (K : gv_go G M_LA_law (d + 1) r hf 392 [some (gR 0), some (gR 1), some (gR 70), some (gR 98), some (gI i), some (gI kk), some (gI b)] [] h2) : gv_go G M_LA_law (d + 1) r hf 367 [some (gR 0), some (gR 1), some (gR 70), some (gR 98), some (gI i), l5, l6] [] h := by
  subst hw
  refine gv_B ok_LA_law 5 rfl ?_
  refine gv_sld ok_LA_law rfl hi ?_
  refine gv_B ok_LA_law 1 rfl ?_
  refine gv_Sc ok_LA_law rfl mk_LA_count rfl hH rfl rfl (Nat.le_of_ble_eq_true rfl) ?_
  refine gv_B ok_LA_law 6 rfl ?_
  refine gv_sld ok_LA_law rfl hi ?_
  refine gv_Vc ok_LA_law rfl mk_MO_count rfl hM rfl rfl (Nat.le_of_ble_eq_true rfl) ho rfl rfl ?_
  refine gv_B ok_LA_law 1 rfl ?_
  exact K
theorem lh_countL (hi : vp_in (i + 1) G.2.2.2.2.2.2.1) (hw : G.2.2.2.2.2.2.2 (i + 1).toNatClampNeg = w) {h2 : Nat → gv_H} (hH : gv_ev G d M_LA_count [gR 1, gI w, gR 98] h (.inr (.inr (some (some (gI kk))))) h1) (hM : ∀ δ : Nat, gv_ev G d M_MO_count [gR 70, gI w] (h1.1 + δ, h1.2) (.inl (some (gI b))) (h2 δ)) {fs : List gv_V} (ho : h1.2.2 70 = some (Sum.inr (12, fs))) (K : ∀ δ : Nat, gv_go G M_LA_law (d + 1) r hf 392 [some (gR 0), some (gR 1), some (gR 70), some (gR 98), some (gI i), some (gI kk), some (gI b)] [] (h2 δ)) : gv_go G M_LA_law (d + 1) r hf 367 [some (gR 0), some (gR 1), some (gR 70), some (gR 98), some (gI i), l5, l6] [] h := by
  subst hw
  refine gv_B ok_LA_law 5 rfl ?_
  refine gv_sld ok_LA_law rfl hi ?_
  refine gv_B ok_LA_law 1 rfl ?_
  refine gv_SL ok_LA_law rfl mk_LA_count rfl hH rfl rfl (Nat.le_of_ble_eq_true rfl) (fun δ => ?_)
  refine gv_B ok_LA_law 6 rfl ?_
  refine gv_sld ok_LA_law rfl hi ?_
  refine gv_Vc ok_LA_law rfl mk_MO_count rfl (hM δ) rfl rfl (Nat.le_of_ble_eq_true rfl) ho rfl rfl ?_
  refine gv_B ok_LA_law 1 rfl ?_
  exact K δ
theorem lt_word (h1 : μ 70 0 = kk) (h2 : kk = 0 → μ 98 0 = b) (K : gv_go G M_LA_law (d + 1) r hf 492 [some (gR 0), some (gR 1), some (gR 70), some (gR 98), some (gI i), some (gI kk), some (gI b)] [] (hp n acc g cap μ)) : gv_go G M_LA_law (d + 1) r hf 461 [some (gR 0), some (gR 1), some (gR 70), some (gR 98), some (gI i), some (gI kk), some (gI b)] [] (hp n acc g cap μ) := by
  refine gv_B ok_LA_law 1 rfl ?_
  refine gv_Vc ok_LA_law rfl mk_MO_thrown rfl (m_thrown (d := d)) rfl rfl (Nat.le_of_ble_eq_true rfl) rfl rfl rfl ?_
  refine gv_B ok_LA_law 2 rfl ?_
  refine gv_brT h1 ?_
  refine gv_B ok_LA_law 2 rfl ?_
  refine gv_br (fun c => ?_) (fun c => ?_)
  · refine gv_B ok_LA_law 1 rfl ?_
    exact K
  · refine gv_B ok_LA_law 6 rfl ?_
    refine gv_st1 (x' := 0) (lg_cmp0 (h2 (Decidable.not_not.mp c))) ?_
    refine gv_B ok_LA_law 2 rfl ?_
    exact K
theorem lh_wordE (hi : vp_in (i + 1) G.2.2.2.2.2.2.1) (hw : G.2.2.2.2.2.2.2 (i + 1).toNatClampNeg = w) (hH : gv_ev G d M_LA_word [gR 1, gI w, gR 98] h (.inl (some (gI kk))) h1) (hM : gv_ev G d M_MO_word [gR 70, gI w] h1 (.inl (some (gI b))) h2) {fs : List gv_V} (ho : h1.2.2 70 = some (Sum.inr (12, fs))) (K : gv_go G M_LA_law (d + 1) r hf 461 [some (gR 0), some (gR 1), some (gR 70), some (gR 98), some (gI i), some (gI kk), some (gI b)] [] h2) : gv_go G M_LA_law (d + 1) r hf 436 [some (gR 0), some (gR 1), some (gR 70), some (gR 98), some (gI i), l5, l6] [] h := by
  subst hw
  refine gv_B ok_LA_law 5 rfl ?_
  refine gv_sld ok_LA_law rfl hi ?_
  refine gv_B ok_LA_law 1 rfl ?_
  refine gv_Sc ok_LA_law rfl mk_LA_word rfl hH rfl rfl (Nat.le_of_ble_eq_true rfl) ?_
  refine gv_B ok_LA_law 6 rfl ?_
  refine gv_sld ok_LA_law rfl hi ?_
  refine gv_Vc ok_LA_law rfl mk_MO_word rfl hM rfl rfl (Nat.le_of_ble_eq_true rfl) ho rfl rfl ?_
  refine gv_B ok_LA_law 1 rfl ?_
  exact K
theorem lh_wordL (hi : vp_in (i + 1) G.2.2.2.2.2.2.1) (hw : G.2.2.2.2.2.2.2 (i + 1).toNatClampNeg = w) {h2 : Nat → gv_H} (hH : gv_ev G d M_LA_word [gR 1, gI w, gR 98] h (.inr (.inr (some (some (gI kk))))) h1) (hM : ∀ δ : Nat, gv_ev G d M_MO_word [gR 70, gI w] (h1.1 + δ, h1.2) (.inl (some (gI b))) (h2 δ)) {fs : List gv_V} (ho : h1.2.2 70 = some (Sum.inr (12, fs))) (K : ∀ δ : Nat, gv_go G M_LA_law (d + 1) r hf 461 [some (gR 0), some (gR 1), some (gR 70), some (gR 98), some (gI i), some (gI kk), some (gI b)] [] (h2 δ)) : gv_go G M_LA_law (d + 1) r hf 436 [some (gR 0), some (gR 1), some (gR 70), some (gR 98), some (gI i), l5, l6] [] h := by
  subst hw
  refine gv_B ok_LA_law 5 rfl ?_
  refine gv_sld ok_LA_law rfl hi ?_
  refine gv_B ok_LA_law 1 rfl ?_
  refine gv_SL ok_LA_law rfl mk_LA_word rfl hH rfl rfl (Nat.le_of_ble_eq_true rfl) (fun δ => ?_)
  refine gv_B ok_LA_law 6 rfl ?_
  refine gv_sld ok_LA_law rfl hi ?_
  refine gv_Vc ok_LA_law rfl mk_MO_word rfl (hM δ) rfl rfl (Nat.le_of_ble_eq_true rfl) ho rfl rfl ?_
  refine gv_B ok_LA_law 1 rfl ?_
  exact K δ
theorem lh_stop (hH : gv_ev G d M_GE_stop [gR 1] h (.inl none) h1) (hM : gv_ev G d M_MO_stop [gR 70] h1 (.inl none) h2) {fs fs1 : List gv_V} (ho0 : h.2.2 1 = some (Sum.inr (0, fs1))) (ho : h1.2.2 70 = some (Sum.inr (12, fs))) (K : gv_go G M_LA_law (d + 1) r hf 492 [some (gR 0), some (gR 1), some (gR 70), some (gR 98), some (gI i), l5, l6] [] h2) : gv_go G M_LA_law (d + 1) r hf 343 [some (gR 0), some (gR 1), some (gR 70), some (gR 98), some (gI i), l5, l6] [] h := by
  refine gv_B ok_LA_law 1 rfl ?_
  refine gv_Vc ok_LA_law rfl mk_GE_stop rfl hH rfl rfl (Nat.le_of_ble_eq_true rfl) ho0 rfl rfl ?_
  refine gv_B ok_LA_law 1 rfl ?_
  refine gv_Vc ok_LA_law rfl mk_MO_stop rfl hM rfl rfl (Nat.le_of_ble_eq_true rfl) ho rfl rfl ?_
  refine gv_B ok_LA_law 1 rfl ?_
  exact K
theorem lh_collect (hH : gv_ev G d M_GE_collect [gR 1] h (.inl (some (gI kk))) h1) (hM : gv_ev G d M_MO_collect [gR 70] h1 (.inl (some (gI kk))) h2) {fs fs1 : List gv_V} (ho0 : h.2.2 1 = some (Sum.inr (0, fs1))) (ho : h1.2.2 70 = some (Sum.inr (12, fs))) (K : gv_go G M_LA_law (d + 1) r hf 492 [some (gR 0), some (gR 1), some (gR 70), some (gR 98), some (gI i), l5, l6] [] h2) : gv_go G M_LA_law (d + 1) r hf 354 [some (gR 0), some (gR 1), some (gR 70), some (gR 98), some (gI i), l5, l6] [] h := by
  refine gv_B ok_LA_law 1 rfl ?_
  refine gv_Vc ok_LA_law rfl mk_GE_collect rfl hH rfl rfl (Nat.le_of_ble_eq_true rfl) ho0 rfl rfl ?_
  refine gv_B ok_LA_law 1 rfl ?_
  refine gv_Vc ok_LA_law rfl mk_MO_collect rfl hM rfl rfl (Nat.le_of_ble_eq_true rfl) ho rfl rfl ?_
  refine gv_B ok_LA_law 1 rfl ?_
  exact gv_brT rfl K
theorem lh_words (hH : gv_ev G d M_GE_words [gR 1] h (.inl (some (gI kk))) h1) (hM : gv_ev G d M_MO_words [gR 70] h1 (.inl (some (gI kk))) h2) {fs fs1 : List gv_V} (ho0 : h.2.2 1 = some (Sum.inr (0, fs1))) (ho : h1.2.2 70 = some (Sum.inr (12, fs))) (K : gv_go G M_LA_law (d + 1) r hf 492 [some (gR 0), some (gR 1), some (gR 70), some (gR 98), some (gI i), l5, l6] [] h2) : gv_go G M_LA_law (d + 1) r hf 423 [some (gR 0), some (gR 1), some (gR 70), some (gR 98), some (gI i), l5, l6] [] h := by
  refine gv_B ok_LA_law 1 rfl ?_
  refine gv_Vc ok_LA_law rfl mk_GE_words rfl hH rfl rfl (Nat.le_of_ble_eq_true rfl) ho0 rfl rfl ?_
  refine gv_B ok_LA_law 1 rfl ?_
  refine gv_Vc ok_LA_law rfl mk_MO_words rfl hM rfl rfl (Nat.le_of_ble_eq_true rfl) ho rfl rfl ?_
  refine gv_B ok_LA_law 1 rfl ?_
  exact gv_brT rfl K
theorem lh_more (hl : ¬ Int32.ofNat G.2.2.2.2.2.2.1 - 2 < i) (hi : vp_in i G.2.2.2.2.2.2.1) (K : gv_go G M_LA_law d r hf (gv_sw (G.2.2.2.2.2.2.2 i.toNatClampNeg &&& 15) 492 [(0, 92), (1, 148), (2, 192), (3, 236), (4, 292), (5, 343), (6, 354), (7, 367), (8, 423), (9, 436)]) [some (gR 0), some (gR 1), some (gR 70), some (gR 98), some (gI i), l5, l6] [] h) : gv_go G M_LA_law d r hf 23 [some (gR 0), some (gR 1), some (gR 70), some (gR 98), some (gI i), l5, l6] [] h := by
  refine gv_B ok_LA_law 2 rfl ?_
  refine gv_slen ok_LA_law rfl ?_
  refine gv_B ok_LA_law 3 rfl ?_
  refine gv_brF hl ?_
  refine gv_B ok_LA_law 2 rfl ?_
  refine gv_sld ok_LA_law rfl hi ?_
  refine gv_B ok_LA_law 3 rfl ?_
  exact K
set_option maxRecDepth 20000 in
theorem lh_end (hl : Int32.ofNat G.2.2.2.2.2.2.1 - 2 < i) (hC : hf.2.1 = (gv_Cn, gv_Sn)) (h1 : h.2.1.1 ≤ gv_Cn) (h2 : h.2.1.2 ≤ gv_Sn) : gv_go G M_LA_law d (.inr (.inr none)) hf 23 [some (gR 0), some (gR 1), some (gR 70), some (gR 98), some (gI i), l5, l6] [] h := by
  refine gv_B ok_LA_law 2 rfl ?_
  refine gv_slen ok_LA_law rfl ?_
  refine gv_B ok_LA_law 3 rfl ?_
  refine gv_brT hl ?_
  refine gv_B ok_LA_law 1 rfl ?_
  exact gv_lawret ok_LA_law rfl hC h1 h2
theorem lh_back (K : gv_go G M_LA_law d r hf 23 [some (gR 0), some (gR 1), some (gR 70), some (gR 98), some (gI (i + 2)), l5, l6] [] h) : gv_go G M_LA_law d r hf 492 [some (gR 0), some (gR 1), some (gR 70), some (gR 98), some (gI i), l5, l6] [] h := by
  refine gv_B ok_LA_law 2 rfl ?_
  exact K
end LWA
