/-! a goal is set, the rows growing where they must -/
section GSA
def b6 {α β δ ε ζ η γ : Type} (o : Option (α × β × δ × ε × ζ × η)) (f : α → β → δ → ε → ζ → η → Option γ) : Option γ := match o with
  | some (a, b, c, e, z, y) => f a b c e z y
  | none => none
theorem b6_e {α β δ ε ζ η γ : Type} {o : Option (α × β × δ × ε × ζ × η)} {f : α → β → δ → ε → ζ → η → Option γ} {c : γ} (h : b6 o f = some c) : ∃ a b e g z y, o = some (a, b, e, g, z, y) ∧ f a b e g z y = some c := by
  unfold b6 at h
  split at h
  next a b e g z y => exact ⟨a, b, e, g, z, y, rfl, h⟩
  next => cases h
/-- the three numbers of a goal -/
def f_GO_w3 (g cap : Nat) (x0 x1 x2 x3 : Int32) (μ : Mu) : Option Mu :=
  b1 (wr μ g cap x0 x1) fun μ1 => b1 (wr μ1 (g + 1) cap x0 x2) fun μ2 => wr μ2 (g + 2) cap x0 x3
def f_GO_set (n : Nat) (acc : Nat × Nat) (g cap : Nat) (x0 x1 x2 x3 : Int32) (μ : Mu) : Option (Nat × (Nat × Nat) × Nat × Nat × Mu) :=
  if gPb g = true then
    (if x0 < Int32.ofNat cap then b1 (f_GO_w3 g cap x0 x1 x2 x3 μ) fun μ1 => some (n, acc, g, cap, μ1)
    else
      (if 99 ≤ n ∧ g + 3 < n ∧ 0 < cap ∧ 2 * cap ≤ 100000 then b1 (f_GO_w3 n (2 * cap) x0 x1 x2 x3 (gwM n g cap μ)) fun μ1 => some (n + 1 + 1 + 1 + 1, gwA acc cap, n, 2 * cap, μ1)
      else none))
  else none
variable {G : gv_G} {d n g cap : Nat} {acc : Nat × Nat}
theorem t_GO_w3 {r : gv_O} {hf : gv_H} {x0 x1 x2 x3 : Int32} {μ μ1 : Mu} (hg : gPb g = true) (h : f_GO_w3 g cap x0 x1 x2 x3 μ = some μ1) (K : gv_go G M_GO_set d r hf 35 [some (gR 53), some (gI x0), some (gI x1), some (gI x2), some (gI x3)] [] (hp n acc g cap μ1)) : gv_go G M_GO_set d r hf 13 [some (gR 53), some (gI x0), some (gI x1), some (gI x2), some (gI x3)] [] (hp n acc g cap μ) := by
  unfold f_GO_w3 at h
  obtain ⟨μ2, e1, h⟩ := b1_e h
  obtain ⟨μ3, e2, h⟩ := b1_e h
  refine gv_B ok_GO_set 4 rfl ?_
  refine hp_wr ok_GO_set rfl (gP_0 hg) (tg_0 hg _) (tg_0 hg _) e1 ?_
  refine gv_B ok_GO_set 4 rfl ?_
  refine hp_wr ok_GO_set rfl rfl (tg_1 hg _) (tg_1 hg _) e2 ?_
  refine gv_B ok_GO_set 4 rfl ?_
  refine hp_wr ok_GO_set rfl rfl (tg_2 hg _) (tg_2 hg _) h ?_
  exact K
theorem t_GO_set {x0 x1 x2 x3 : Int32} {μ : Mu} {nr : Nat} {ar : Nat × Nat} {gr cr : Nat} {μr : Mu} (h : f_GO_set n acc g cap x0 x1 x2 x3 μ = some (nr, ar, gr, cr, μr)) : gv_ev G (d + 2) M_GO_set [gR 53, gI x0, gI x1, gI x2, gI x3] (hp n acc g cap μ) (.inl none) (hp nr ar gr cr μr) := by
  unfold f_GO_set at h
  by_cases hg : gPb g = true
  rotate_left
  · rw [if_neg hg] at h
    cases h
  rw [if_pos hg] at h
  refine gv_E (ls := [some (gR 53), some (gI x0), some (gI x1), some (gI x2), some (gI x3)]) (by decide) (fun h => by cases h) (Nat.le_of_ble_eq_true rfl) rfl ?_
  refine gv_B ok_GO_set 3 rfl ?_
  refine gv_al ok_GO_set rfl (tg_0 hg _) (by decide) ?_
  refine gv_B ok_GO_set 1 rfl ?_
  by_cases c : x0 < Int32.ofNat cap
  · rw [if_pos c] at h
    refine gv_brT c ?_
    obtain ⟨μ1, e1, h⟩ := b1_e h
    cases h
    exact t_GO_w3 hg e1 (gv_Rv ok_GO_set rfl rfl)
  · rw [if_neg c] at h
    refine gv_brF c ?_
    by_cases q : 99 ≤ n ∧ g + 3 < n ∧ 0 < cap ∧ 2 * cap ≤ 100000
    · rw [if_pos q] at h
      obtain ⟨μ1, e1, h⟩ := b1_e h
      cases h
      refine gv_B ok_GO_set 1 rfl ?_
      refine gv_Vc ok_GO_set rfl mk_GO_grow rfl (t_GO_grow (d := d) hg q.1 q.2.1 q.2.2.1 q.2.2.2) rfl rfl (Nat.le_of_ble_eq_true rfl) rfl rfl rfl ?_
      have hP : gPb n = true := by
        unfold gPb
        rw [Bool.or_eq_true]
        exact Or.inr (Nat.ble_eq_true_of_le q.1)
      exact t_GO_w3 hP e1 (gv_Rv ok_GO_set rfl rfl)
    · rw [if_neg q] at h
      cases h
end GSA
