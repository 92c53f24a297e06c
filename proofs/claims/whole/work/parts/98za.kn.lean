/-! one step: the known names -/
section KNW
variable {g cap R : Nat} {has : Nat → Bool} {N S c tr tb nq GT P M : Nat} {φ K τ cm tm gm cs ct : Nat → Nat} {μ ν : Mu}
theorem lc_ge (a b : Int32) : (0 ≤ lg_cmp a.toInt64 b.toInt64) ↔ b ≤ a := by
  rw [lg_cmp_ge, Int64.le_iff_toInt_le, Int32.le_iff_toInt_le, Int32.toInt_toInt64, Int32.toInt_toInt64]
theorem lc_eq (a b : Int32) : lg_cmp a.toInt64 b.toInt64 = 0 ↔ a = b := by
  constructor
  · intro h
    have h1 : 0 ≤ lg_cmp a.toInt64 b.toInt64 := by rw [h]; decide
    have h2 : lg_cmp a.toInt64 b.toInt64 ≤ 0 := by rw [h]; decide
    have h3 := (lc_ge a b).mp h1
    have h4 := (lg_cmp_le _ _).mp h2
    rw [Int64.le_iff_toInt_le, Int32.toInt_toInt64, Int32.toInt_toInt64] at h4
    rw [Int32.le_iff_toInt_le] at h3
    apply Int32.toInt_inj.mp
    omega
  · intro h
    subst h
    unfold lg_cmp
    rw [if_neg (fun q => by
      have q2 : a.toInt64 < a.toInt64 := q
      rw [Int64.lt_iff_toInt_lt] at q2
      omega), if_pos rfl]
def nrL : Option Int32 → Int64
  | some x => x.toInt64
  | none => 4294967296
theorem cmp_26 {a b : Int32} {μ : Mu} : f_SE_compare (nI 26) (nrL (some a)) (nrL (some b)) μ = some (nI (if b ≤ a then 1 else 0)) := by
  unfold f_SE_compare
  show (if lg_cmp a.toInt64 4294967296 = 0 then _ else _) = _
  rw [if_neg (l_nn a), if_pos (show ¬ lg_cmp (nrL (some b)) 4294967296 = 0 from l_nn b), if_neg (not_not_intro (show nI 26 = 26 from rfl))]
  show (b1 (if 0 ≤ lg_cmp a.toInt64 b.toInt64 then _ else _) _) = _
  by_cases e : b ≤ a
  · rw [if_pos ((lc_ge a b).mpr e), b1_s, if_pos rfl, if_pos e]; rfl
  · rw [if_neg (fun q => e ((lc_ge a b).mp q)), b1_s, if_neg (by decide), if_neg e]; rfl
theorem cmp_27 {a b : Int32} {μ : Mu} : f_SE_compare (nI 27) (nrL (some a)) (nrL (some b)) μ = some (nI (if a = b then 0 else 1)) := by
  unfold f_SE_compare
  show (if lg_cmp a.toInt64 4294967296 = 0 then _ else _) = _
  rw [if_neg (l_nn a), if_pos (show ¬ lg_cmp (nrL (some b)) 4294967296 = 0 from l_nn b), if_pos (show ¬ nI 27 = 26 by decide)]
  show (b1 (if ¬ lg_cmp a.toInt64 b.toInt64 = 0 then _ else _) _) = _
  by_cases e : a = b
  · rw [if_neg (not_not_intro ((lc_eq a b).mpr e)), b1_s, if_neg (by decide), if_pos e]; rfl
  · rw [if_pos (fun q => e ((lc_eq a b).mp q)), b1_s, if_pos rfl, if_neg e]; rfl
theorem cmp_e1 {nm : Nat} {y : Int64} {μ : Mu} : f_SE_compare (nI nm) (nrL none) y μ = some (nI 2) := by
  unfold f_SE_compare
  rw [if_pos (show lg_cmp (nrL none) 4294967296 = 0 from l_n0)]; rfl
theorem cmp_e2 {nm : Nat} {a : Int32} {μ : Mu} : f_SE_compare (nI nm) (nrL (some a)) (nrL none) μ = some (nI 2) := by
  unfold f_SE_compare
  rw [if_neg (show ¬ lg_cmp (nrL (some a)) 4294967296 = 0 from l_nn a), if_neg (not_not_intro (show lg_cmp (nrL none) 4294967296 = 0 from l_n0))]; rfl
/-- a calculation changes nothing that matters -/
theorem ca_act (h : actR g cap R has N S c tr tb nq GT P M φ K τ cm tm gm cs ct μ ν) (hg : gOK g) (hR16 : R ≤ 16) (hGT : GT < 2 ^ 29) {t k v : Int32} (ht : tmR N φ K t k v) :
    ∃ (r : Option Int32) (o : Nat) (ν' : Mu), f_CA_calculate t μ = some (nrL r, sI μ 52 1 (nI o)) ∧ f_MO_calculate k v ν = some (r.getD 0, ν') ∧ ν' 70 49 = (if r = none then 2 else 0) ∧ (∀ x, r = some x → rnd x = x) ∧ actR g cap R has N S c tr tb nq GT P M φ K τ cm tm gm cs ct (sI μ 52 1 (nI o)) ν' := by
  obtain ⟨o, r, a1, a2, a3, a4⟩ := ca_s h.1 ht
  obtain ⟨ν', b1, b2⟩ := a4 ν ⟨rfl, rfl, rfl, rfl⟩
  refine ⟨r, o, ν', by rw [a2 μ rfl]; cases r <;> rfl, b1, b2, a3, actR_c h hR16 hGT (fun k hk => sI_nk (by unfold gOK at hg; omega)) rfl rfl rfl rfl rfl (fun k q1 q2 => ?_) ?_ (fun j hj => ?_)⟩
  · funext j
    exact fr_MO_calculate b1 (by unfold W_MO_calculate; omega)
  · funext j
    exact fr_MO_calculate b1 (by unfold W_MO_calculate; omega)
  · exact fr_MO_calculate b1 (by unfold W_MO_calculate; omega)
theorem kn_s {i nm : Nat} (h : actR g cap R has N S c tr tb nq GT P M φ K τ cm tm gm cs ct μ ν) (hg : gOK g) (hR16 : R ≤ 16) (hGT : GT < 2 ^ 29) (hP : P ≤ 2600) (hM : M < 2 ^ 28) (hi : i < N) (hK : K i = 2) (hC : μ 41 i = wd nm 4) (hnm : 24 ≤ nm ∧ nm < 28) (h49 : ν 70 49 = 0) :
    ∃ (rr : Nat) (μ' ν' : Mu), f_SE_meet (nI nm) (μ 41 (i + 1)) (μ 41 (i + 2)) μ = some (nI rr, μ') ∧ f_MO_known (nI nm) (nI (φ i)) ν = some ν' ∧ ν' 70 49 = nI rr ∧ (rr = 0 ∨ rr = 1 ∨ rr = 2 ∨ rr = 3) ∧ (∃ (tr' tb' M' : Nat), actR g cap R has N S c tr' tb' nq GT P M' φ K τ cm tm gm cs ct μ' ν' ∧ M' ≤ M + 300) := by
  have hN := h.1.1
  obtain ⟨a, nm', g1, g2, g3, g4, g5, g6, g7, g8⟩ := st_of h.1 hi hK
  have e := (wd_eq (by omega) (by omega) (by omega) (by omega)).mp (hC.symm.trans g4)
  have ea : a = 2 := by omega
  subst ea
  obtain ⟨x1, x2, x3, x4⟩ := g8 0 (by omega)
  obtain ⟨y1, y2, y3, y4⟩ := g8 1 (by omega)
  have ha0 : f_MO_argumentKind (nI (φ i)) 0 ν = some (ν 76 (φ (i + 1 + 0))) ∧ f_MO_argumentValue (nI (φ i)) 0 ν = some (ν 77 (φ (i + 1 + 0))) := by
    unfold f_MO_argumentKind f_MO_argumentValue
    have e0 : 3 * nI (φ i) + 0 = nI (3 * φ i + 0) := mul3 (φ i) 0
    rw [e0, rd_n (by omega) (by decide), b1_s, b1_s, x1, rd_n x2 (by decide), rd_n x2 (by decide)]
    exact ⟨rfl, rfl⟩
  have ha1 : f_MO_argumentKind (nI (φ i)) 1 ν = some (ν 76 (φ (i + 1 + 1))) ∧ f_MO_argumentValue (nI (φ i)) 1 ν = some (ν 77 (φ (i + 1 + 1))) := by
    unfold f_MO_argumentKind f_MO_argumentValue
    have e0 : 3 * nI (φ i) + 1 = nI (3 * φ i + 1) := mul3 (φ i) 1
    rw [e0, rd_n (by omega) (by decide), b1_s, b1_s, y1, rd_n y2 (by decide), rd_n y2 (by decide)]
    exact ⟨rfl, rfl⟩
  generalize hk1 : ν 76 (φ (i + 1 + 0)) = k1 at *
  generalize hv1 : ν 77 (φ (i + 1 + 0)) = v1 at *
  generalize hk2 : ν 76 (φ (i + 1 + 1)) = k2 at *
  generalize hv2 : ν 77 (φ (i + 1 + 1)) = v2 at *
  have ht1 : tmR N φ K (μ 41 (i + 1)) k1 v1 := x4
  have ht2 : tmR N φ K (μ 41 (i + 2)) k2 v2 := y4
  generalize hT1 : μ 41 (i + 1) = t1 at *
  generalize hT2 : μ 41 (i + 2) = t2 at *
  have hkn : f_MO_known (nI nm) (nI (φ i)) ν = (if ¬ nI nm = 24 then (b2 (if ¬ nI nm = 25 then (b2 (f_MO_calculate k1 v1 ν) fun v16 μ17 => some (v16, μ17)) else some ((0 : Int32), ν)) fun v10 μ11 => b2 (if nI nm = 25 then (b2 (f_MO_calculate k2 v2 μ11) fun v26 μ27 => some (v26, μ27)) else (if ¬ (μ11 70 49) = 0 then some ((0 : Int32), μ11) else (b2 (f_MO_calculate k2 v2 μ11) fun v31 μ32 => some (v31, μ32)))) fun v20 μ21 => if (μ21 70 49) = 0 then (if ¬ nI nm = 25 then (b1 (if ¬ nI nm = 26 then (if ¬ v10 = v20 then some ((1 : Int32)) else some ((0 : Int32))) else (if v20 ≤ v10 then some ((1 : Int32)) else some ((0 : Int32)))) fun v37 => some ((sI μ21 70 49 v37))) else (b1 (f_MO_unify k1 v1 1 v20 μ21) fun μ44 => some (μ44))) else some (μ21)) else (b1 (f_MO_unify k1 v1 k2 v2 ν) fun μ47 => some (μ47))) := by
    unfold f_MO_known
    rw [ha0.1, b1_s, ha0.2, b1_s, ha1.1, b1_s, ha1.2, b1_s]
  rcases (show nm = 24 ∨ nm = 25 ∨ nm = 26 ∨ nm = 27 by omega) with e1 | e1 | e1 | e1
  · -- the same
    subst e1
    obtain ⟨rr, μ', ν', tr', tb', M', u1, u2, u3, u4, u5, u6, u7⟩ := un_act h hg hR16 hGT hP hM ht1 ht2
    refine ⟨rr, μ', ν', ?_, ?_, u3, by omega, ⟨tr', tb', M', u7, u5⟩⟩
    · unfold f_SE_meet
      rw [if_pos (show nI 24 = 24 from rfl), u1, b2_s]
    · rw [hkn, if_neg (not_not_intro (show nI 24 = 24 from rfl)), u2, b1_s]
  · -- is
    subst e1
    obtain ⟨r, o, ν1, c1, c2, c3, c4, c5⟩ := ca_act h hg hR16 hGT ht2
    have hcls : f_SE_meet (nI 25) t1 t2 μ = (if ¬ (lg_cmp (nrL r) 4294967296) = 0 then (b2 (f_UN_unify t1 (((Int64.toInt32 (nrL r)) <<< ((3 : Int32) &&& 31)) ||| 1) (sI μ 52 1 (nI o))) fun v13 μ14 => some (v13, μ14)) else some (2, sI μ 52 1 (nI o))) := by
      unfold f_SE_meet
      rw [if_neg (show ¬ nI 25 = 24 by decide), if_pos (show nI 25 = 25 from rfl), c1, b2_s]
    have hmod : f_MO_known (nI 25) (nI (φ i)) ν = (if (ν1 70 49) = 0 then (b1 (f_MO_unify k1 v1 1 (r.getD 0) ν1) fun μ44 => some (μ44)) else some ν1) := by
      rw [hkn, if_pos (show ¬ nI 25 = 24 by decide), if_neg (not_not_intro (show nI 25 = 25 from rfl)), b2_s, if_pos (show nI 25 = 25 from rfl), c2, b2_s, b2_s, if_neg (not_not_intro (show nI 25 = 25 from rfl))]
    cases r with
    | none =>
      refine ⟨2, sI μ 52 1 (nI o), ν1, ?_, ?_, by rw [c3, if_pos rfl]; rfl, by omega, ⟨tr, tb, M, c5, by omega⟩⟩
      · rw [hcls, if_neg (not_not_intro (show lg_cmp (nrL none) 4294967296 = 0 from l_n0))]; rfl
      · have c3' : ν1 70 49 = 2 := by rw [c3, if_pos rfl]
        rw [hmod, if_neg (by rw [c3']; decide)]
    | some x =>
      have hx : tmR N φ K ((x <<< ((3 : Int32) &&& 31)) ||| 1) 1 x := Or.inr (Or.inl ⟨num_k x, rfl, (num_v (c4 x rfl)).symm⟩)
      obtain ⟨rr, μ', ν', tr', tb', M', u1, u2, u3, u4, u5, u6, u7⟩ := un_act c5 hg hR16 hGT hP hM ht1 hx
      refine ⟨rr, μ', ν', ?_, ?_, u3, by omega, ⟨tr', tb', M', u7, u5⟩⟩
      · rw [hcls, if_pos (show ¬ lg_cmp (nrL (some x)) 4294967296 = 0 from l_nn x), show Int64.toInt32 (nrL (some x)) = x from l_i x, u1, b2_s]
      · have c3' : ν1 70 49 = 0 := by rw [c3, if_neg (by intro q; cases q)]
        rw [hmod, if_pos c3']
        show (b1 (f_MO_unify k1 v1 1 x ν1) fun μ44 => some μ44) = _
        rw [u2, b1_s]
  all_goals
    have hmt : f_SE_meet (nI nm) t1 t2 μ = (b2 (f_CA_calculate t1 μ) fun v18 μ19 => b2 (f_CA_calculate t2 μ19) fun v22 μ23 => b1 (f_SE_compare (nI nm) v18 v22 μ23) fun v26 => some (v26, μ23)) := by
      subst e1
      unfold f_SE_meet
      first
      | rw [if_neg (show ¬ nI 26 = 24 by decide), if_neg (show ¬ nI 26 = 25 by decide), if_pos (show nI 26 = 26 from rfl)]
      | rw [if_neg (show ¬ nI 27 = 24 by decide), if_neg (show ¬ nI 27 = 25 by decide), if_neg (show ¬ nI 27 = 26 by decide), if_pos (show nI 27 = 27 from rfl)]
    have hn24 : ¬ nI nm = 24 := by subst e1; decide
    have hn25 : ¬ nI nm = 25 := by subst e1; decide
    obtain ⟨r1, o1, ν1, c1, c2, c3, c4, c5⟩ := ca_act h hg hR16 hGT ht1
    obtain ⟨r2, o2, ν2, d1, d2, d3, d4, d5⟩ := ca_act c5 hg hR16 hGT ht2
    rw [if_pos hn24, if_pos hn25, c2, b2_s, b2_s, if_neg hn25] at hkn
    rw [c1, b2_s, d1, b2_s] at hmt
    cases r1 with
    | none =>
      have c3' : ν1 70 49 = 2 := by rw [c3, if_pos rfl]
      refine ⟨2, _, ν1, by rw [hmt, cmp_e1, b1_s], ?_, by rw [c3']; rfl, by omega, ⟨tr, tb, M, actR_c c5 hR16 hGT (fun k hk => sI_nk (by unfold gOK at hg; omega)) rfl rfl rfl rfl rfl (fun _ _ _ => rfl) rfl (fun _ _ => rfl), by omega⟩⟩
      rw [hkn, if_pos (by rw [c3']; decide), b2_s, if_neg (by rw [c3']; decide)]
    | some a =>
      have c3' : ν1 70 49 = 0 := by rw [c3, if_neg (by intro q; cases q)]
      rw [if_neg (not_not_intro c3'), d2, b2_s, b2_s] at hkn
      cases r2 with
      | none =>
        have d3' : ν2 70 49 = 2 := by rw [d3, if_pos rfl]
        refine ⟨2, _, ν2, by rw [hmt, cmp_e2, b1_s], ?_, by rw [d3']; rfl, by omega, ⟨tr, tb, M, d5, by omega⟩⟩
        rw [hkn, if_neg (by rw [d3']; decide)]
      | some b =>
        have d3' : ν2 70 49 = 0 := by rw [d3, if_neg (by intro q; cases q)]
        have hact : ∀ z : Int32, actR g cap R has N S c tr tb nq GT P M φ K τ cm tm gm cs ct (sI (sI μ 52 1 (nI o1)) 52 1 (nI o2)) (sI ν2 70 49 z) := fun z => d5
        rw [if_pos d3', if_pos hn25] at hkn
        subst e1
        first
        | (rw [cmp_26, b1_s] at hmt
           rw [if_neg (not_not_intro (show nI 26 = 26 from rfl))] at hkn
           refine ⟨if b ≤ a then 1 else 0, _, sI ν2 70 49 (nI (if b ≤ a then 1 else 0)), hmt, ?_, rfl, by split <;> omega, ⟨tr, tb, M, hact _, by omega⟩⟩
           rw [hkn]
           by_cases e : b ≤ a
           · rw [if_pos (show (some b).getD 0 ≤ (some a).getD 0 from e), b1_s, if_pos e]; rfl
           · rw [if_neg (show ¬ (some b).getD 0 ≤ (some a).getD 0 from e), b1_s, if_neg e]; rfl)
        | (rw [cmp_27, b1_s] at hmt
           rw [if_pos (show ¬ nI 27 = 26 by decide)] at hkn
           refine ⟨if a = b then 0 else 1, _, sI ν2 70 49 (nI (if a = b then 0 else 1)), hmt, ?_, rfl, by split <;> omega, ⟨tr, tb, M, hact _, by omega⟩⟩
           rw [hkn]
           by_cases e : a = b
           · rw [if_neg (not_not_intro (show (some a).getD 0 = (some b).getD 0 from e)), b1_s, if_pos e]; rfl
           · rw [if_pos (show ¬ (some a).getD 0 = (some b).getD 0 from e), b1_s, if_neg e]; rfl)
end KNW
