/-! put of the reference -/
section MPA
variable {G : gv_G} {d n g cap t : Nat} {acc : Nat × Nat} {μ : Nat → Nat → Int32} {w : Int32} {r : gv_O} {hf h : gv_H}
theorem m_putW1 (hw : isW w) (K : gv_go G M_MO_put d r hf 64 [some (gR 70), some (gI w), some (gI (w_k w)), some (gI (w_v w)), none] [gI 1] h) : gv_go G M_MO_put d r hf 0 [some (gR 70), some (gI w), none, none, none] [] h := by
  obtain ⟨j, hj, e⟩ := w_k8 w
  unfold isW at hw
  refine gv_B ok_MO_put 10 rfl ?_
  show gv_go G M_MO_put d r hf (if ¬ w_k w = 0 then 23 else 13) [some (gR 70), some (gI w), some (gI (w_k w)), some (gI (w_v w)), none] [] h
  rw [e] at hw K ⊢
  generalize w_v w = v at hw K ⊢
  rcases (show j = 0 ∨ j = 1 ∨ j = 2 ∨ j = 3 ∨ j = 4 ∨ j = 5 ∨ j = 6 ∨ j = 7 by omega) with q | q | q | q | q | q | q | q <;> subst q
  · rw [isWk_0] at hw
    refine gv_brF (by decide) ?_
    refine gv_B ok_MO_put 2 rfl ?_
    refine gv_brF hw.1 ?_
    refine gv_B ok_MO_put 3 rfl ?_
    refine gv_brT hw.2 ?_
    refine gv_B ok_MO_put 2 rfl ?_
    exact K
  · refine gv_brT (by decide) ?_
    refine gv_B ok_MO_put 3 rfl ?_
    refine gv_brT (by decide) ?_
    refine gv_B ok_MO_put 2 rfl ?_
    exact K
  · rw [isWk_2] at hw
    refine gv_brT (by decide) ?_
    refine gv_B ok_MO_put 3 rfl ?_
    refine gv_brF (by decide) ?_
    refine gv_B ok_MO_put 3 rfl ?_
    refine gv_brF (by decide) ?_
    refine gv_B ok_MO_put 3 rfl ?_
    refine gv_brF (by decide) ?_
    refine gv_B ok_MO_put 2 rfl ?_
    refine gv_brF hw.1 ?_
    refine gv_B ok_MO_put 3 rfl ?_
    refine gv_brT hw.2 ?_
    refine gv_B ok_MO_put 2 rfl ?_
    exact K
  · rw [isWk_3] at hw
    refine gv_brT (by decide) ?_
    refine gv_B ok_MO_put 3 rfl ?_
    refine gv_brF (by decide) ?_
    refine gv_B ok_MO_put 3 rfl ?_
    refine gv_brF (by decide) ?_
    refine gv_B ok_MO_put 3 rfl ?_
    refine gv_brF (by decide) ?_
    refine gv_B ok_MO_put 2 rfl ?_
    refine gv_brF hw.1 ?_
    refine gv_B ok_MO_put 3 rfl ?_
    refine gv_brT hw.2 ?_
    refine gv_B ok_MO_put 2 rfl ?_
    exact K
  · rw [isWk_4] at hw
    refine gv_brT (by decide) ?_
    refine gv_B ok_MO_put 3 rfl ?_
    refine gv_brF (by decide) ?_
    refine gv_B ok_MO_put 3 rfl ?_
    refine gv_brF (by decide) ?_
    refine gv_B ok_MO_put 3 rfl ?_
    refine gv_brF (by decide) ?_
    refine gv_B ok_MO_put 2 rfl ?_
    refine gv_brF hw.1 ?_
    refine gv_B ok_MO_put 3 rfl ?_
    refine gv_brT hw.2 ?_
    refine gv_B ok_MO_put 2 rfl ?_
    exact K
  · rw [isWk_5] at hw
    refine gv_brT (by decide) ?_
    refine gv_B ok_MO_put 3 rfl ?_
    refine gv_brF (by decide) ?_
    refine gv_B ok_MO_put 3 rfl ?_
    refine gv_brF (by decide) ?_
    refine gv_B ok_MO_put 3 rfl ?_
    refine gv_brF (by decide) ?_
    refine gv_B ok_MO_put 2 rfl ?_
    refine gv_brF hw.1 ?_
    refine gv_B ok_MO_put 3 rfl ?_
    refine gv_brT hw.2 ?_
    refine gv_B ok_MO_put 2 rfl ?_
    exact K
  · rw [isWk_6] at hw
    refine gv_brT (by decide) ?_
    refine gv_B ok_MO_put 3 rfl ?_
    refine gv_brF (by decide) ?_
    refine gv_B ok_MO_put 3 rfl ?_
    refine gv_brF (by decide) ?_
    refine gv_B ok_MO_put 3 rfl ?_
    refine gv_brT (by decide) ?_
    refine gv_B ok_MO_put 3 rfl ?_
    refine gv_brF (by decide) ?_
    refine gv_B ok_MO_put 2 rfl ?_
    refine gv_brF (not_not_intro hw) ?_
    refine gv_B ok_MO_put 2 rfl ?_
    exact K
  · exact absurd hw isWk_7
theorem m_putW0 (hw : ¬ isW w) (K : gv_go G M_MO_put d r hf 64 [some (gR 70), some (gI w), some (gI (w_k w)), some (gI (w_v w)), none] [gI 0] h) : gv_go G M_MO_put d r hf 0 [some (gR 70), some (gI w), none, none, none] [] h := by
  obtain ⟨j, hj, e⟩ := w_k8 w
  unfold isW at hw
  refine gv_B ok_MO_put 10 rfl ?_
  show gv_go G M_MO_put d r hf (if ¬ w_k w = 0 then 23 else 13) [some (gR 70), some (gI w), some (gI (w_k w)), some (gI (w_v w)), none] [] h
  rw [e] at hw K ⊢
  generalize w_v w = v at hw K ⊢
  rcases (show j = 0 ∨ j = 1 ∨ j = 2 ∨ j = 3 ∨ j = 4 ∨ j = 5 ∨ j = 6 ∨ j = 7 by omega) with q | q | q | q | q | q | q | q <;> subst q
  · rw [isWk_0] at hw
    refine gv_brF (by decide) ?_
    have KK : gv_go G M_MO_put d r hf 23 [some (gR 70), some (gI w), some (gI (nI 0)), some (gI v), none] [] h := by
      refine gv_B ok_MO_put 3 rfl ?_
      refine gv_brF (by decide) ?_
      refine gv_B ok_MO_put 3 rfl ?_
      refine gv_brT (by decide) ?_
      refine gv_B ok_MO_put 3 rfl ?_
      refine gv_brT (by decide) ?_
      refine gv_B ok_MO_put 1 rfl ?_
      exact K
    refine gv_B ok_MO_put 2 rfl ?_
    refine gv_br (fun c1 => KK) (fun c1 => ?_)
    refine gv_B ok_MO_put 3 rfl ?_
    exact gv_brF (fun c2 => hw ⟨c1, c2⟩) KK
  · exact absurd isWk_1 hw
  · rw [isWk_2] at hw
    refine gv_brT (by decide) ?_
    refine gv_B ok_MO_put 3 rfl ?_
    refine gv_brF (by decide) ?_
    refine gv_B ok_MO_put 3 rfl ?_
    refine gv_brF (by decide) ?_
    refine gv_B ok_MO_put 3 rfl ?_
    refine gv_brF (by decide) ?_
    have KK : gv_go G M_MO_put d r hf 49 [some (gR 70), some (gI w), some (gI (nI 2)), some (gI v), none] [] h := by
      refine gv_B ok_MO_put 3 rfl ?_
      refine gv_brT (by decide) ?_
      refine gv_B ok_MO_put 1 rfl ?_
      exact K
    refine gv_B ok_MO_put 2 rfl ?_
    refine gv_br (fun c1 => KK) (fun c1 => ?_)
    refine gv_B ok_MO_put 3 rfl ?_
    exact gv_brF (fun c2 => hw ⟨c1, c2⟩) KK
  · rw [isWk_3] at hw
    refine gv_brT (by decide) ?_
    refine gv_B ok_MO_put 3 rfl ?_
    refine gv_brF (by decide) ?_
    refine gv_B ok_MO_put 3 rfl ?_
    refine gv_brF (by decide) ?_
    refine gv_B ok_MO_put 3 rfl ?_
    refine gv_brF (by decide) ?_
    have KK : gv_go G M_MO_put d r hf 49 [some (gR 70), some (gI w), some (gI (nI 3)), some (gI v), none] [] h := by
      refine gv_B ok_MO_put 3 rfl ?_
      refine gv_brT (by decide) ?_
      refine gv_B ok_MO_put 1 rfl ?_
      exact K
    refine gv_B ok_MO_put 2 rfl ?_
    refine gv_br (fun c1 => KK) (fun c1 => ?_)
    refine gv_B ok_MO_put 3 rfl ?_
    exact gv_brF (fun c2 => hw ⟨c1, c2⟩) KK
  · rw [isWk_4] at hw
    refine gv_brT (by decide) ?_
    refine gv_B ok_MO_put 3 rfl ?_
    refine gv_brF (by decide) ?_
    refine gv_B ok_MO_put 3 rfl ?_
    refine gv_brF (by decide) ?_
    refine gv_B ok_MO_put 3 rfl ?_
    refine gv_brF (by decide) ?_
    have KK : gv_go G M_MO_put d r hf 49 [some (gR 70), some (gI w), some (gI (nI 4)), some (gI v), none] [] h := by
      refine gv_B ok_MO_put 3 rfl ?_
      refine gv_brT (by decide) ?_
      refine gv_B ok_MO_put 1 rfl ?_
      exact K
    refine gv_B ok_MO_put 2 rfl ?_
    refine gv_br (fun c1 => KK) (fun c1 => ?_)
    refine gv_B ok_MO_put 3 rfl ?_
    exact gv_brF (fun c2 => hw ⟨c1, c2⟩) KK
  · rw [isWk_5] at hw
    refine gv_brT (by decide) ?_
    refine gv_B ok_MO_put 3 rfl ?_
    refine gv_brF (by decide) ?_
    refine gv_B ok_MO_put 3 rfl ?_
    refine gv_brF (by decide) ?_
    refine gv_B ok_MO_put 3 rfl ?_
    refine gv_brF (by decide) ?_
    have KK : gv_go G M_MO_put d r hf 49 [some (gR 70), some (gI w), some (gI (nI 5)), some (gI v), none] [] h := by
      refine gv_B ok_MO_put 3 rfl ?_
      refine gv_brT (by decide) ?_
      refine gv_B ok_MO_put 1 rfl ?_
      exact K
    refine gv_B ok_MO_put 2 rfl ?_
    refine gv_br (fun c1 => KK) (fun c1 => ?_)
    refine gv_B ok_MO_put 3 rfl ?_
    exact gv_brF (fun c2 => hw ⟨c1, c2⟩) KK
  · rw [isWk_6] at hw
    refine gv_brT (by decide) ?_
    refine gv_B ok_MO_put 3 rfl ?_
    refine gv_brF (by decide) ?_
    refine gv_B ok_MO_put 3 rfl ?_
    refine gv_brF (by decide) ?_
    refine gv_B ok_MO_put 3 rfl ?_
    refine gv_brT (by decide) ?_
    refine gv_B ok_MO_put 3 rfl ?_
    refine gv_brF (by decide) ?_
    refine gv_B ok_MO_put 2 rfl ?_
    refine gv_brT hw ?_
    refine gv_B ok_MO_put 1 rfl ?_
    exact K
  · refine gv_brT (by decide) ?_
    refine gv_B ok_MO_put 3 rfl ?_
    refine gv_brF (by decide) ?_
    refine gv_B ok_MO_put 3 rfl ?_
    refine gv_brF (by decide) ?_
    refine gv_B ok_MO_put 3 rfl ?_
    refine gv_brT (by decide) ?_
    refine gv_B ok_MO_put 3 rfl ?_
    refine gv_brT (by decide) ?_
    refine gv_B ok_MO_put 1 rfl ?_
    exact K
theorem m_put0 (hw : ¬ isW w) : gv_ev G (d + 0) M_MO_put [gR 70, gI w] (hp n acc g cap μ) (.inl (some (gI 0))) (hp n acc g cap (sI μ 70 0 1)) := by
  refine gv_E (ls := [some (gR 70), some (gI w), none, none, none]) (by decide) (fun h => by cases h) (Nat.le_of_ble_eq_true rfl) rfl ?_
  refine m_putW0 hw ?_
  refine gv_B ok_MO_put 6 rfl ?_
  refine hp_pf ok_MO_put rfl rfl rfl rfl rfl (Nat.le_of_ble_eq_true rfl) rfl ?_
  refine gv_B ok_MO_put 4 rfl ?_
  exact gv_Ri ok_MO_put rfl rfl
theorem m_put1 (hw : isW w) (ht : t < 30) (hμ : μ 70 1 = nI t) : gv_ev G (d + 0) M_MO_put [gR 70, gI w] (hp n acc g cap μ) (.inl (some (gI (nI (t + 1))))) (hp n acc g cap (sI (sI (sI μ 70 0 0) 71 t w) 70 1 (nI (t + 1)))) := by
  refine gv_E (ls := [some (gR 70), some (gI w), none, none, none]) (by decide) (fun h => by cases h) (Nat.le_of_ble_eq_true rfl) rfl ?_
  refine m_putW1 hw ?_
  refine gv_B ok_MO_put 8 rfl ?_
  refine gv_brT (by show ¬ μ 70 1 = 30; rw [hμ]; exact fun c => absurd ((nI_eq (a := t) (b := 30) (by omega) (by decide)).mp c) (by omega)) ?_
  refine gv_B ok_MO_put 1 rfl ?_
  refine hp_pf ok_MO_put rfl rfl rfl rfl rfl (Nat.le_of_ble_eq_true rfl) rfl ?_
  refine gv_B ok_MO_put 8 rfl ?_
  refine hp_ias ok_MO_put rfl rfl rfl rfl hμ ht (by decide) ?_
  refine gv_B ok_MO_put 5 rfl ?_
  refine gv_st1 (x' := nI (t + 1)) (by show μ 70 1 + 1 = _; rw [hμ, ← nI_succ]) ?_
  refine hp_pf ok_MO_put rfl rfl rfl rfl rfl (Nat.le_of_ble_eq_true rfl) rfl ?_
  refine gv_B ok_MO_put 2 rfl ?_
  refine gv_st1 sI_at ?_
  exact gv_Ri ok_MO_put rfl rfl
theorem m_putF (hw : isW w) (hμ : μ 70 1 = 30) : gv_ev G (d + 0) M_MO_put [gR 70, gI w] (hp n acc g cap μ) (.inl (some (gI 0))) (hp n acc g cap (sI μ 70 0 2)) := by
  refine gv_E (ls := [some (gR 70), some (gI w), none, none, none]) (by decide) (fun h => by cases h) (Nat.le_of_ble_eq_true rfl) rfl ?_
  refine m_putW1 hw ?_
  refine gv_B ok_MO_put 8 rfl ?_
  refine gv_brF (not_not_intro hμ) ?_
  refine gv_B ok_MO_put 2 rfl ?_
  refine hp_pf ok_MO_put rfl rfl rfl rfl rfl (Nat.le_of_ble_eq_true rfl) rfl ?_
  refine gv_B ok_MO_put 4 rfl ?_
  exact gv_Ri ok_MO_put rfl rfl
end MPA
