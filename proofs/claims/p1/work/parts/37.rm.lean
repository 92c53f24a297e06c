/-! simple methods of the reference (written by wip/tools/genr.py) -/
section RMA
variable {G : gv_G} {d n g cap : Nat} {acc : Nat × Nat} {μ : Nat → Nat → Int32} {k x w : Int32} {t : Nat}
theorem lt1_le0 (h : k < 1) : k ≤ 0 := by
  rw [Int32.lt_iff_toInt_lt] at h
  rw [Int32.le_iff_toInt_le]
  have e1 : (1 : Int32).toInt = 1 := by decide
  have e0 : (0 : Int32).toInt = 0 := by decide
  omega
theorem nlt1_nle0 (h : ¬ k < 1) : ¬ k ≤ 0 := by
  rw [Int32.lt_iff_toInt_lt] at h
  rw [Int32.le_iff_toInt_le]
  have e1 : (1 : Int32).toInt = 1 := by decide
  have e0 : (0 : Int32).toInt = 0 := by decide
  omega
theorem m_thrown : gv_ev G (d + 0) M_MO_thrown [gR 70] (hp n acc g cap μ) (.inl (some (gI (μ 70 0)))) (hp n acc g cap μ) := by
  refine gv_E (ls := [some (gR 70)]) (by decide) (fun h => by cases h) (Nat.le_of_ble_eq_true rfl) rfl ?_
  refine gv_B ok_MO_thrown 2 rfl ?_
  exact gv_Ri ok_MO_thrown rfl rfl
theorem m_rule0 (h1 : ¬ μ 70 3 = 16) (h2 : μ 70 25 = 0) (h3 : μ 70 1 = 0) : gv_ev G (d + 0) M_MO_rule [gR 70] (hp n acc g cap μ) (.inl (some (gI 0))) (hp n acc g cap (sI (sI (sI μ 70 0 0) 70 0 2) 70 1 0)) := by
  refine gv_E (ls := [some (gR 70), none, none]) (by decide) (fun h => by cases h) (Nat.le_of_ble_eq_true rfl) rfl ?_
  refine gv_B ok_MO_rule 5 rfl ?_
  refine gv_brF h1 ?_
  refine gv_B ok_MO_rule 3 rfl ?_
  refine gv_brT h2 ?_
  refine gv_B ok_MO_rule 1 rfl ?_
  refine hp_pf ok_MO_rule rfl rfl rfl rfl rfl (Nat.le_of_ble_eq_true rfl) rfl ?_
  refine gv_B ok_MO_rule 6 rfl ?_
  refine gv_brT (by show μ 70 1 ≤ 0; rw [h3]; decide) ?_
  refine gv_B ok_MO_rule 6 rfl ?_
  refine hp_pf ok_MO_rule rfl rfl rfl rfl rfl (Nat.le_of_ble_eq_true rfl) rfl ?_
  refine gv_B ok_MO_rule 4 rfl ?_
  refine hp_pf ok_MO_rule rfl rfl rfl rfl rfl (Nat.le_of_ble_eq_true rfl) rfl ?_
  refine gv_B ok_MO_rule 3 rfl ?_
  exact gv_Ri ok_MO_rule rfl rfl
theorem m_ask0 (h3 : μ 70 1 = 0) : gv_ev G (d + 0) M_MO_ask [gR 70] (hp n acc g cap μ) (.inl (some (gI 0))) (hp n acc g cap (sI (sI μ 70 0 1) 70 1 0)) := by
  refine gv_E (ls := [some (gR 70), none, none]) (by decide) (fun h => by cases h) (Nat.le_of_ble_eq_true rfl) rfl ?_
  refine gv_B ok_MO_ask 3 rfl ?_
  refine gv_brT (by rw [h3]; decide) ?_
  refine gv_B ok_MO_ask 6 rfl ?_
  refine hp_pf ok_MO_ask rfl rfl rfl rfl rfl (Nat.le_of_ble_eq_true rfl) rfl ?_
  refine gv_B ok_MO_ask 4 rfl ?_
  refine hp_pf ok_MO_ask rfl rfl rfl rfl rfl (Nat.le_of_ble_eq_true rfl) rfl ?_
  refine gv_B ok_MO_ask 3 rfl ?_
  exact gv_Ri ok_MO_ask rfl rfl
theorem m_solveA (h1 : k < 1) : gv_ev G (d + 0) M_MO_solve [gR 70, gI k] (hp n acc g cap μ) (.inl (some (gI 0))) (hp n acc g cap (sI μ 70 0 1)) := by
  refine gv_E (ls := [some (gR 70), some (gI k), none]) (by decide) (fun h => by cases h) (Nat.le_of_ble_eq_true rfl) rfl ?_
  refine gv_B ok_MO_solve 4 rfl ?_
  refine gv_brT h1 ?_
  refine gv_B ok_MO_solve 2 rfl ?_
  refine hp_pf ok_MO_solve rfl rfl rfl rfl rfl (Nat.le_of_ble_eq_true rfl) rfl ?_
  refine gv_B ok_MO_solve 5 rfl ?_
  refine gv_brT (lt1_le0 h1) ?_
  refine gv_B ok_MO_solve 5 rfl ?_
  exact gv_Ri ok_MO_solve rfl rfl
theorem m_solveB (h1 : ¬ k < 1) (h2 : ¬ k ≤ 20) : gv_ev G (d + 0) M_MO_solve [gR 70, gI k] (hp n acc g cap μ) (.inl (some (gI 0))) (hp n acc g cap (sI μ 70 0 1)) := by
  refine gv_E (ls := [some (gR 70), some (gI k), none]) (by decide) (fun h => by cases h) (Nat.le_of_ble_eq_true rfl) rfl ?_
  refine gv_B ok_MO_solve 4 rfl ?_
  refine gv_brF h1 ?_
  refine gv_B ok_MO_solve 3 rfl ?_
  refine gv_brF h2 ?_
  refine gv_B ok_MO_solve 2 rfl ?_
  refine hp_pf ok_MO_solve rfl rfl rfl rfl rfl (Nat.le_of_ble_eq_true rfl) rfl ?_
  refine gv_B ok_MO_solve 5 rfl ?_
  refine gv_brF (nlt1_nle0 h1) ?_
  refine gv_B ok_MO_solve 8 rfl ?_
  exact gv_Ri ok_MO_solve rfl rfl
theorem m_solveS (h1 : ¬ k < 1) (h2 : k ≤ 20) (h3 : μ 70 25 = 0) : gv_ev G (d + 0) M_MO_solve [gR 70, gI k] (hp n acc g cap μ) (.inl (some (gI 0))) (hp n acc g cap (sI μ 70 0 2)) := by
  refine gv_E (ls := [some (gR 70), some (gI k), none]) (by decide) (fun h => by cases h) (Nat.le_of_ble_eq_true rfl) rfl ?_
  refine gv_B ok_MO_solve 4 rfl ?_
  refine gv_brF h1 ?_
  refine gv_B ok_MO_solve 3 rfl ?_
  refine gv_brT h2 ?_
  refine gv_B ok_MO_solve 3 rfl ?_
  refine gv_brT h3 ?_
  refine gv_B ok_MO_solve 2 rfl ?_
  refine hp_pf ok_MO_solve rfl rfl rfl rfl rfl (Nat.le_of_ble_eq_true rfl) rfl ?_
  refine gv_B ok_MO_solve 5 rfl ?_
  refine gv_brF (nlt1_nle0 h1) ?_
  refine gv_B ok_MO_solve 8 rfl ?_
  exact gv_Ri ok_MO_solve rfl rfl
theorem m_next0 (h1 : μ 70 26 = 0) : gv_ev G (d + 0) M_MO_next [gR 70] (hp n acc g cap μ) (.inl (some (gI 0))) (hp n acc g cap (sI μ 70 0 1)) := by
  refine gv_E (ls := [some (gR 70)]) (by decide) (fun h => by cases h) (Nat.le_of_ble_eq_true rfl) rfl ?_
  refine gv_B ok_MO_next 4 rfl ?_
  refine gv_brT h1 ?_
  refine gv_B ok_MO_next 1 rfl ?_
  refine hp_pf ok_MO_next rfl rfl rfl rfl rfl (Nat.le_of_ble_eq_true rfl) rfl ?_
  refine gv_B ok_MO_next 4 rfl ?_
  exact gv_Rz ok_MO_next rfl rfl (by decide)
theorem m_stop0 (h1 : μ 70 25 = 0) : gv_ev G (d + 0) M_MO_stop [gR 70] (hp n acc g cap μ) (.inl none) (hp n acc g cap (sI μ 70 0 0)) := by
  refine gv_E (ls := [some (gR 70)]) (by decide) (fun h => by cases h) (Nat.le_of_ble_eq_true rfl) rfl ?_
  refine gv_B ok_MO_stop 2 rfl ?_
  refine hp_pf ok_MO_stop rfl rfl rfl rfl rfl (Nat.le_of_ble_eq_true rfl) rfl ?_
  refine gv_B ok_MO_stop 3 rfl ?_
  refine gv_brT h1 ?_
  exact gv_Rv ok_MO_stop rfl rfl
theorem m_collect0 (h1 : μ 70 25 = 0) : gv_ev G (d + 0) M_MO_collect [gR 70] (hp n acc g cap μ) (.inl (some (gI 0))) (hp n acc g cap (sI μ 70 0 0)) := by
  refine gv_E (ls := [some (gR 70)]) (by decide) (fun h => by cases h) (Nat.le_of_ble_eq_true rfl) rfl ?_
  refine gv_B ok_MO_collect 2 rfl ?_
  refine hp_pf ok_MO_collect rfl rfl rfl rfl rfl (Nat.le_of_ble_eq_true rfl) rfl ?_
  refine gv_B ok_MO_collect 3 rfl ?_
  refine gv_brT h1 ?_
  refine gv_B ok_MO_collect 1 rfl ?_
  exact gv_Ri ok_MO_collect rfl rfl
/-- how many of the first c are above 0 -/
def cntP (f : Nat → Int32) : Nat → Nat
  | 0 => 0
  | c + 1 => cntP f c + (if 0 < f c then 1 else 0)
theorem gv_lse {y : gv_M} {r : gv_O} {hf h : gv_H} {pc : Nat} {ls ls' : gv_L} {st : List gv_V} (e : ls = ls') (k : gv_go G y d r hf pc ls' st h) : gv_go G y d r hf pc ls st h := e ▸ k
theorem m_inUseL (b : Nat) : ∀ c : Nat, c + b = 240 → gv_go G M_MO_inUse d (.inl (some (gI (nI (cntP (μ 74) 240))))) (hp n acc g cap μ) 4 [some (gR 70), some (gI (nI (cntP (μ 74) c))), some (gI (nI c))] [] (hp n acc g cap μ) := by
  induction b with
  | zero =>
    intro c hc
    have hc : c = 240 := by omega
    subst hc
    refine gv_B ok_MO_inUse 3 rfl ?_
    refine gv_brT (by decide) ?_
    refine gv_B ok_MO_inUse 1 rfl ?_
    exact gv_Ri ok_MO_inUse rfl rfl
  | succ b ih =>
    intro c hc
    refine gv_B ok_MO_inUse 3 rfl ?_
    refine gv_brF (nI_ge (b := 240) (by omega) (by decide)) ?_
    refine gv_B ok_MO_inUse 4 rfl ?_
    refine hp_ial ok_MO_inUse rfl rfl rfl (show c < 240 by omega) (by decide) ?_
    refine gv_B ok_MO_inUse 1 rfl ?_
    refine gv_br (fun c1 => ?_) (fun c1 => ?_)
    · refine gv_B ok_MO_inUse 5 rfl ?_
      refine gv_lse (ls' := [some (gR 70), some (gI (nI (cntP (μ 74) (c + 1)))), some (gI (nI (c + 1)))]) ?_ (ih (c + 1) (by omega))
      have e1 : cntP (μ 74) (c + 1) = cntP (μ 74) c := by
        show cntP (μ 74) c + (if 0 < μ 74 c then 1 else 0) = _
        rw [if_neg (Int32.not_lt.mpr c1)]
        rfl
      rw [e1, nI_succ c]
      show [some (gR 70), some (gI (nI (cntP (μ 74) c) + 0)), some (gI (nI c + 1))] = _
      rw [Int32.add_zero]
    · refine gv_B ok_MO_inUse 6 rfl ?_
      refine gv_lse (ls' := [some (gR 70), some (gI (nI (cntP (μ 74) (c + 1)))), some (gI (nI (c + 1)))]) ?_ (ih (c + 1) (by omega))
      have e1 : cntP (μ 74) (c + 1) = cntP (μ 74) c + 1 := by
        show cntP (μ 74) c + (if 0 < μ 74 c then 1 else 0) = _
        rw [if_pos (Int32.not_le.mp c1)]
      rw [e1, nI_succ c, nI_succ (cntP (μ 74) c)]
      rfl
theorem m_inUse : gv_ev G (d + 0) M_MO_inUse [gR 70] (hp n acc g cap μ) (.inl (some (gI (nI (cntP (μ 74) 240))))) (hp n acc g cap μ) := by
  refine gv_E (ls := [some (gR 70), none, none]) (by decide) (fun h => by cases h) (Nat.le_of_ble_eq_true rfl) rfl ?_
  refine gv_B ok_MO_inUse 4 rfl ?_
  exact m_inUseL 240 0 rfl
theorem cntP0 {f : Nat → Int32} (h : ∀ j, f j = 0) : ∀ c, cntP f c = 0
  | 0 => rfl
  | c + 1 => by
    show cntP f c + (if 0 < f c then 1 else 0) = 0
    rw [cntP0 h c, h c]
    rfl
/-- the first c are 0 -/
def zM (f : Nat → Int32) (c : Nat) : Nat → Int32 := fun j => if j < c then 0 else f j
theorem zM_0 {f : Nat → Int32} : zM f 0 = f := funext fun j => if_neg (Nat.not_lt_zero j)
theorem zM_up {f : Nat → Int32} {c : Nat} : upd (zM f c) c 0 = zM f (c + 1) := by
  funext j
  unfold upd zM
  by_cases e : j = c
  · rw [if_pos e, if_pos (by omega)]
  · rw [if_neg e]
    by_cases e2 : j < c
    · rw [if_pos e2, if_pos (by omega)]
    · rw [if_neg e2, if_neg (by omega)]
theorem upM_up {μ : Nat → Nat → Int32} {k : Nat} {m m' : Nat → Int32} : upM (upM μ k m) k m' = upM μ k m' := by
  funext j
  unfold upM
  by_cases e : j = k
  · rw [if_pos e, if_pos e]
  · rw [if_neg e, if_neg e, if_neg e]
theorem upM_self {μ : Nat → Nat → Int32} {k : Nat} : upM μ k (μ k) = μ := by
  funext j
  unfold upM
  by_cases e : j = k
  · rw [if_pos e, e]
  · rw [if_neg e]
theorem m_zeroA {r : gv_O} {hf : gv_H} {q : Int32} (f : Nat → Int32) (K : gv_go G M_MO_findAnswer d r hf 32 [some (gR 70), some (gI q), some (gI (nI 240))] [] (hp n acc g cap (upM μ 90 (zM f 240)))) (b : Nat) : ∀ c : Nat, c + b = 240 → gv_go G M_MO_findAnswer d r hf 12 [some (gR 70), some (gI q), some (gI (nI c))] [] (hp n acc g cap (upM μ 90 (zM f c))) := by
  induction b with
  | zero =>
    intro c hc
    have hc : c = 240 := by omega
    subst hc
    refine gv_B ok_MO_findAnswer 3 rfl ?_
    refine gv_brT (by decide) ?_
    exact K
  | succ b ih =>
    intro c hc
    refine gv_B ok_MO_findAnswer 3 rfl ?_
    refine gv_brF (nI_ge (b := 240) (by omega) (by decide)) ?_
    refine gv_B ok_MO_findAnswer 4 rfl ?_
    refine hp_ias ok_MO_findAnswer rfl rfl rfl rfl rfl (show c < 240 by omega) (by decide) ?_
    refine gv_B ok_MO_findAnswer 2 rfl ?_
    refine gv_lse (ls' := [some (gR 70), some (gI q), some (gI (nI (c + 1)))]) (by rw [nI_succ c]; rfl) ?_
    have e : sI (upM μ 90 (zM f c)) 90 c 0 = upM μ 90 (zM f (c + 1)) := by
      unfold sI
      rw [upM_at, zM_up, upM_up]
    rw [e]
    exact ih (c + 1) (by omega)
theorem m_zeroB {r : gv_O} {hf : gv_H} {q : Int32} (f : Nat → Int32) (K : gv_go G M_MO_findAnswer d r hf 109 [some (gR 70), some (gI q), some (gI (nI 240))] [] (hp n acc g cap (upM μ 90 (zM f 240)))) (b : Nat) : ∀ c : Nat, c + b = 240 → gv_go G M_MO_findAnswer d r hf 89 [some (gR 70), some (gI q), some (gI (nI c))] [] (hp n acc g cap (upM μ 90 (zM f c))) := by
  induction b with
  | zero =>
    intro c hc
    have hc : c = 240 := by omega
    subst hc
    refine gv_B ok_MO_findAnswer 3 rfl ?_
    refine gv_brT (by decide) ?_
    exact K
  | succ b ih =>
    intro c hc
    refine gv_B ok_MO_findAnswer 3 rfl ?_
    refine gv_brF (nI_ge (b := 240) (by omega) (by decide)) ?_
    refine gv_B ok_MO_findAnswer 4 rfl ?_
    refine hp_ias ok_MO_findAnswer rfl rfl rfl rfl rfl (show c < 240 by omega) (by decide) ?_
    refine gv_B ok_MO_findAnswer 2 rfl ?_
    refine gv_lse (ls' := [some (gR 70), some (gI q), some (gI (nI (c + 1)))]) (by rw [nI_succ c]; rfl) ?_
    have e : sI (upM μ 90 (zM f c)) 90 c 0 = upM μ 90 (zM f (c + 1)) := by
      unfold sI
      rw [upM_at, zM_up, upM_up]
    rw [e]
    exact ih (c + 1) (by omega)
/-- no answer: the row is empty, the marks are 0 -/
def fa0 (μ : Nat → Nat → Int32) : Nat → Nat → Int32 := sI (upM (sI (upM (sI μ 70 38 0) 90 (zM (μ 90) 240)) 70 34 1) 90 (zM (zM (μ 90) 240) 240)) 70 34 (μ 70 34)
theorem m_findAnswer0 (h1 : μ 70 26 = 0) : gv_ev G d M_MO_findAnswer [gR 70] (hp n acc g cap μ) (.inl none) (hp n acc g cap (fa0 μ)) := by
  refine gv_E (ls := [some (gR 70), none, none]) (by decide) (fun h => by cases h) (Nat.le_of_ble_eq_true rfl) rfl ?_
  refine gv_B ok_MO_findAnswer 2 rfl ?_
  refine hp_pf ok_MO_findAnswer rfl rfl rfl rfl rfl (Nat.le_of_ble_eq_true rfl) rfl ?_
  refine gv_B ok_MO_findAnswer 5 rfl ?_
  have e0 : hp n acc g cap (sI μ 70 38 0) = hp n acc g cap (upM (sI μ 70 38 0) 90 (zM (μ 90) 0)) := by
    rw [zM_0]
    exact congrArg (hp n acc g cap) (upM_self (μ := sI μ 70 38 0) (k := 90)).symm
  refine gv_cast e0 ?_
  refine m_zeroA (q := μ 70 34) (μ 90) ?_ 240 0 rfl
  refine gv_B ok_MO_findAnswer 2 rfl ?_
  refine hp_pf ok_MO_findAnswer rfl rfl rfl rfl rfl (Nat.le_of_ble_eq_true rfl) rfl ?_
  refine gv_B ok_MO_findAnswer 8 rfl ?_
  refine gv_brT h1 ?_
  refine gv_B ok_MO_findAnswer 2 rfl ?_
  have e1 : hp n acc g cap (sI (upM (sI μ 70 38 0) 90 (zM (μ 90) 240)) 70 34 1) = hp n acc g cap (upM (sI (upM (sI μ 70 38 0) 90 (zM (μ 90) 240)) 70 34 1) 90 (zM (zM (μ 90) 240) 0)) := by
    rw [zM_0]
    exact congrArg (hp n acc g cap) (upM_self (μ := sI (upM (sI μ 70 38 0) 90 (zM (μ 90) 240)) 70 34 1) (k := 90)).symm
  refine gv_cast e1 ?_
  refine m_zeroB (q := μ 70 34) (zM (μ 90) 240) ?_ 240 0 rfl
  refine gv_B ok_MO_findAnswer 2 rfl ?_
  refine hp_pf ok_MO_findAnswer rfl rfl rfl rfl rfl (Nat.le_of_ble_eq_true rfl) rfl ?_
  exact gv_Rv ok_MO_findAnswer rfl rfl
theorem m_words0 (h1 : μ 70 26 = 0) : gv_ev G (d + 1) M_MO_words [gR 70] (hp n acc g cap μ) (.inl (some (gI 0))) (hp n acc g cap (fa0 (sI μ 70 0 0))) := by
  refine gv_E (ls := [some (gR 70)]) (by decide) (fun h => by cases h) (Nat.le_of_ble_eq_true rfl) rfl ?_
  refine gv_B ok_MO_words 2 rfl ?_
  refine hp_pf ok_MO_words rfl rfl rfl rfl rfl (Nat.le_of_ble_eq_true rfl) rfl ?_
  refine gv_B ok_MO_words 1 rfl ?_
  refine gv_Vc ok_MO_words rfl mk_MO_findAnswer rfl (m_findAnswer0 (d := d) (μ := sI μ 70 0 0) h1) rfl rfl (Nat.le_of_ble_eq_true rfl) rfl rfl rfl ?_
  refine gv_B ok_MO_words 2 rfl ?_
  exact gv_Ri ok_MO_words rfl rfl
theorem m_wordN (h1 : μ 70 26 = 0) (h2 : x < 0) : gv_ev G (d + 1) M_MO_word [gR 70, gI x] (hp n acc g cap μ) (.inl (some (gI 0))) (hp n acc g cap (sI (fa0 μ) 70 0 1)) := by
  refine gv_E (ls := [some (gR 70), some (gI x)]) (by decide) (fun h => by cases h) (Nat.le_of_ble_eq_true rfl) rfl ?_
  refine gv_B ok_MO_word 1 rfl ?_
  refine gv_Vc ok_MO_word rfl mk_MO_findAnswer rfl (m_findAnswer0 (d := d) h1) rfl rfl (Nat.le_of_ble_eq_true rfl) rfl rfl rfl ?_
  refine gv_B ok_MO_word 3 rfl ?_
  refine gv_brT h2 ?_
  refine gv_B ok_MO_word 2 rfl ?_
  refine hp_pf ok_MO_word rfl rfl rfl rfl rfl (Nat.le_of_ble_eq_true rfl) rfl ?_
  refine gv_B ok_MO_word 4 rfl ?_
  exact gv_Ri ok_MO_word rfl rfl
theorem m_word0 (h1 : μ 70 26 = 0) (h2 : ¬ x < 0) : gv_ev G (d + 1) M_MO_word [gR 70, gI x] (hp n acc g cap μ) (.inl (some (gI 0))) (hp n acc g cap (sI (fa0 μ) 70 0 1)) := by
  refine gv_E (ls := [some (gR 70), some (gI x)]) (by decide) (fun h => by cases h) (Nat.le_of_ble_eq_true rfl) rfl ?_
  refine gv_B ok_MO_word 1 rfl ?_
  refine gv_Vc ok_MO_word rfl mk_MO_findAnswer rfl (m_findAnswer0 (d := d) h1) rfl rfl (Nat.le_of_ble_eq_true rfl) rfl rfl rfl ?_
  refine gv_B ok_MO_word 3 rfl ?_
  refine gv_brF h2 ?_
  refine gv_B ok_MO_word 4 rfl ?_
  refine gv_brF h2 ?_
  refine gv_B ok_MO_word 2 rfl ?_
  refine hp_pf ok_MO_word rfl rfl rfl rfl rfl (Nat.le_of_ble_eq_true rfl) rfl ?_
  refine gv_B ok_MO_word 4 rfl ?_
  exact gv_Ri ok_MO_word rfl rfl
theorem m_count0 (h1 : μ 70 16 < 0) : gv_ev G (d + 1) M_MO_count [gR 70, gI 0] (hp n acc g cap μ) (.inl (some (gI (nI (cntP (μ 74) 240))))) (hp n acc g cap (sI μ 70 0 0)) := by
  refine gv_E (ls := [some (gR 70), some (gI 0), none, none]) (by decide) (fun h => by cases h) (Nat.le_of_ble_eq_true rfl) rfl ?_
  refine gv_B ok_MO_count 7 rfl ?_
  refine hp_pf ok_MO_count rfl rfl rfl rfl rfl (Nat.le_of_ble_eq_true rfl) rfl ?_
  refine gv_B ok_MO_count 7 rfl ?_
  refine gv_brT h1 ?_
  refine gv_B ok_MO_count 6 rfl ?_
  refine gv_Vc ok_MO_count rfl mk_MO_inUse rfl (m_inUse (d := d)) rfl rfl (Nat.le_of_ble_eq_true rfl) rfl rfl rfl ?_
  refine gv_B ok_MO_count 1 rfl ?_
  exact gv_Ri ok_MO_count rfl rfl
theorem m_count1 (h1 : μ 70 16 < 0) : gv_ev G (d + 1) M_MO_count [gR 70, gI 1] (hp n acc g cap μ) (.inl (some (gI (μ 70 18)))) (hp n acc g cap (sI μ 70 0 0)) := by
  refine gv_E (ls := [some (gR 70), some (gI 1), none, none]) (by decide) (fun h => by cases h) (Nat.le_of_ble_eq_true rfl) rfl ?_
  refine gv_B ok_MO_count 7 rfl ?_
  refine hp_pf ok_MO_count rfl rfl rfl rfl rfl (Nat.le_of_ble_eq_true rfl) rfl ?_
  refine gv_B ok_MO_count 7 rfl ?_
  refine gv_brT h1 ?_
  refine gv_B ok_MO_count 11 rfl ?_
  exact gv_Ri ok_MO_count rfl rfl
theorem m_count2 (h1 : μ 70 16 < 0) : gv_ev G (d + 1) M_MO_count [gR 70, gI 2] (hp n acc g cap μ) (.inl (some (gI 0))) (hp n acc g cap (sI μ 70 0 0)) := by
  refine gv_E (ls := [some (gR 70), some (gI 2), none, none]) (by decide) (fun h => by cases h) (Nat.le_of_ble_eq_true rfl) rfl ?_
  refine gv_B ok_MO_count 7 rfl ?_
  refine hp_pf ok_MO_count rfl rfl rfl rfl rfl (Nat.le_of_ble_eq_true rfl) rfl ?_
  refine gv_B ok_MO_count 7 rfl ?_
  refine gv_brT h1 ?_
  refine gv_B ok_MO_count 13 rfl ?_
  exact gv_Ri ok_MO_count rfl rfl
theorem m_count3 (h1 : μ 70 16 < 0) : gv_ev G (d + 1) M_MO_count [gR 70, gI 3] (hp n acc g cap μ) (.inl (some (gI (μ 70 27)))) (hp n acc g cap (sI μ 70 0 0)) := by
  refine gv_E (ls := [some (gR 70), some (gI 3), none, none]) (by decide) (fun h => by cases h) (Nat.le_of_ble_eq_true rfl) rfl ?_
  refine gv_B ok_MO_count 7 rfl ?_
  refine hp_pf ok_MO_count rfl rfl rfl rfl rfl (Nat.le_of_ble_eq_true rfl) rfl ?_
  refine gv_B ok_MO_count 7 rfl ?_
  refine gv_brT h1 ?_
  refine gv_B ok_MO_count 17 rfl ?_
  exact gv_Ri ok_MO_count rfl rfl
theorem m_count4 (h1 : μ 70 16 < 0) : gv_ev G (d + 1) M_MO_count [gR 70, gI 4] (hp n acc g cap μ) (.inl (some (gI (μ 70 3)))) (hp n acc g cap (sI μ 70 0 0)) := by
  refine gv_E (ls := [some (gR 70), some (gI 4), none, none]) (by decide) (fun h => by cases h) (Nat.le_of_ble_eq_true rfl) rfl ?_
  refine gv_B ok_MO_count 7 rfl ?_
  refine hp_pf ok_MO_count rfl rfl rfl rfl rfl (Nat.le_of_ble_eq_true rfl) rfl ?_
  refine gv_B ok_MO_count 7 rfl ?_
  refine gv_brT h1 ?_
  refine gv_B ok_MO_count 20 rfl ?_
  exact gv_Ri ok_MO_count rfl rfl
theorem m_count5 (h1 : μ 70 16 < 0) : gv_ev G (d + 1) M_MO_count [gR 70, gI 5] (hp n acc g cap μ) (.inl (some (gI (μ 70 1)))) (hp n acc g cap (sI μ 70 0 0)) := by
  refine gv_E (ls := [some (gR 70), some (gI 5), none, none]) (by decide) (fun h => by cases h) (Nat.le_of_ble_eq_true rfl) rfl ?_
  refine gv_B ok_MO_count 7 rfl ?_
  refine hp_pf ok_MO_count rfl rfl rfl rfl rfl (Nat.le_of_ble_eq_true rfl) rfl ?_
  refine gv_B ok_MO_count 7 rfl ?_
  refine gv_brT h1 ?_
  refine gv_B ok_MO_count 23 rfl ?_
  exact gv_Ri ok_MO_count rfl rfl
theorem m_count6 (h1 : μ 70 16 < 0) : gv_ev G (d + 1) M_MO_count [gR 70, gI 6] (hp n acc g cap μ) (.inl (some (gI (μ 70 28)))) (hp n acc g cap (sI μ 70 0 0)) := by
  refine gv_E (ls := [some (gR 70), some (gI 6), none, none]) (by decide) (fun h => by cases h) (Nat.le_of_ble_eq_true rfl) rfl ?_
  refine gv_B ok_MO_count 7 rfl ?_
  refine hp_pf ok_MO_count rfl rfl rfl rfl rfl (Nat.le_of_ble_eq_true rfl) rfl ?_
  refine gv_B ok_MO_count 7 rfl ?_
  refine gv_brT h1 ?_
  refine gv_B ok_MO_count 22 rfl ?_
  exact gv_Ri ok_MO_count rfl rfl
theorem m_countN (h1 : μ 70 16 < 0) (h2 : k < 0) : gv_ev G (d + 1) M_MO_count [gR 70, gI k] (hp n acc g cap μ) (.inl (some (gI 0))) (hp n acc g cap (sI μ 70 0 1)) := by
  refine gv_E (ls := [some (gR 70), some (gI k), none, none]) (by decide) (fun h => by cases h) (Nat.le_of_ble_eq_true rfl) rfl ?_
  refine gv_B ok_MO_count 3 rfl ?_
  refine gv_brT h2 ?_
  refine gv_B ok_MO_count 2 rfl ?_
  refine hp_pf ok_MO_count rfl rfl rfl rfl rfl (Nat.le_of_ble_eq_true rfl) rfl ?_
  refine gv_B ok_MO_count 7 rfl ?_
  refine gv_brT h1 ?_
  refine gv_B ok_MO_count 5 rfl ?_
  exact gv_Ri ok_MO_count rfl rfl
theorem m_countB (h1 : μ 70 16 < 0) (h2 : ¬ k < 0) (h3 : ¬ k ≤ 6) : gv_ev G (d + 1) M_MO_count [gR 70, gI k] (hp n acc g cap μ) (.inl (some (gI 0))) (hp n acc g cap (sI μ 70 0 1)) := by
  refine gv_E (ls := [some (gR 70), some (gI k), none, none]) (by decide) (fun h => by cases h) (Nat.le_of_ble_eq_true rfl) rfl ?_
  refine gv_B ok_MO_count 3 rfl ?_
  refine gv_brF h2 ?_
  refine gv_B ok_MO_count 3 rfl ?_
  refine gv_brF h3 ?_
  refine gv_B ok_MO_count 2 rfl ?_
  refine hp_pf ok_MO_count rfl rfl rfl rfl rfl (Nat.le_of_ble_eq_true rfl) rfl ?_
  refine gv_B ok_MO_count 7 rfl ?_
  refine gv_brT h1 ?_
  refine gv_B ok_MO_count 5 rfl ?_
  exact gv_Ri ok_MO_count rfl rfl
end RMA
