section TRB
variable {C U T KK V NM A : Nat → Int32} {N S : Nat} {φ K τ : Nat → Nat}
/-- a variable's cell holds itself or a term -/
theorem var_of (hR : cellsR C U T KK V NM A N S φ K τ) {i : Nat} (hi : i < N) (hK : K i = 1) : ((∃ j, j < N ∧ (K j = 1 ∨ K j = 2) ∧ tgt (C i) j) ∨ (kd (C i) ≠ 0 ∧ kd (C i) ≠ 7)) ∧ arK (kd (C i)) = 0 := by
  obtain ⟨hN, hS, hφ, hτ, hu, hc⟩ := hR
  have hk : ∀ {t k v : Int32}, tmR N φ K t k v → arK (kd t) = 0 := by
    intro t k v h
    rcases tmR_kd h hN with ⟨h1, -⟩ | ⟨h1, -⟩ | ⟨h1, -⟩ | ⟨h1, -⟩ <;> rw [h1] <;> rfl
  rcases hc i hi with ⟨-, ⟨u1, u2⟩ | ⟨u1, u2, u3⟩⟩ | ⟨q1, -⟩ | ⟨q1, -⟩
  · exact ⟨Or.inl ⟨i, hi, Or.inl hK, Or.inl u1⟩, by rw [u1, kd_wd (by omega) (by omega)]; rfl⟩
  · exact ⟨tm_tgt u2 hN, hk u2⟩
  · omega
  · omega
theorem arg_of (hR : cellsR C U T KK V NM A N S φ K τ) {i : Nat} (hi : i < N) (hK : K i = 2) : ∃ a nm, 1 ≤ a ∧ a ≤ 3 ∧ nm < 32 ∧ C i = wd nm (2 + a) ∧ i + a < N ∧ ∀ m, m < a → (∃ j, j < N ∧ (K j = 1 ∨ K j = 2) ∧ tgt (C (i + 1 + m)) j) ∨ (kd (C (i + 1 + m)) ≠ 0 ∧ kd (C (i + 1 + m)) ≠ 7) := by
  obtain ⟨a, nm, g1, g2, g3, g4, g5, g6, g7, g8⟩ := st_of hR hi hK
  exact ⟨a, nm, g1, g2, g3, g4, g6, fun m hm => tm_tgt (g8 m hm).2.2.2 hR.1⟩
/-- closed under what hangs on what -/
def clo (C : Nat → Int32) (N : Nat) (K : Nat → Nat) (P : Nat → Prop) : Prop := ∀ i j, i < N → j < N → P i → Ed C K i j → P j
theorem clo_K (hR : cellsR C U T KK V NM A N S φ K τ) : clo C N K (fun i => K i = 1 ∨ K i = 2) := by
  intro i j hi hj _ hE
  have hN := hR.1
  have key : ∀ t : Int32, ((∃ j, j < N ∧ (K j = 1 ∨ K j = 2) ∧ tgt t j) ∨ (kd t ≠ 0 ∧ kd t ≠ 7)) → tgt t j → K j = 1 ∨ K j = 2 := by
    intro t h q
    rcases h with ⟨x, h1, h2, h3⟩ | h
    · rw [← tgt_u h3 q (by omega) (by omega)]; exact h2
    · exact absurd q (tgt_no h (by omega))
  rcases hE with ⟨h1, h2⟩ | ⟨h1, a, nm, m, h2, h3, h4, h5, h6⟩
  · exact key _ (var_of hR hi h1).1 h2
  · obtain ⟨a', nm', g1, g2, g3, g4, g5, g6⟩ := arg_of hR hi h1
    have e := (wd_eq (by omega) (by omega) (by omega) (by omega)).mp (h2.symm.trans g4)
    have ea : a' = a := by omega
    subst ea
    exact key _ (g6 m h5) h6
theorem trace_l (hR : cellsR C U T KK V NM A N S φ K τ) {P : Nat → Prop} (hP : clo C N K P) (hPK : ∀ i, i < N → P i → K i = 1 ∨ K i = 2) (d : Nat) : ∀ (fl r w : Nat) (μ : Mu), r + d = 240 → d < fl → trI C N K P (fun _ => False) r w μ →
    ∃ r' μ', f_TR_trace_7 fl (nI r) μ = some μ' ∧ trI C N K P (fun _ => False) r' 0 μ' ∧ ∀ i, i < N → μ 47 i = 1 → μ' 47 i = 1 := by
  have hN := hR.1
  induction d with
  | zero =>
    intro fl r w μ hr hfl hI
    cases fl with
    | zero => omega
    | succ fl =>
    obtain ⟨h1, h2, h3, h4, h5, h6, h7⟩ := hI
    have hc := cnt_le (fun i => decide (μ 47 i = 1)) N
    have hw : w = 0 := by omega
    subst hw
    refine ⟨r, μ, ?_, ⟨h1, h2, h3, h4, h5, h6, h7⟩, fun _ _ q => q⟩
    unfold f_TR_trace_7
    rw [if_pos (show 240 ≤ nI r from nI_le (a := 240) (by omega) (by omega))]
  | succ d ih =>
    intro fl r w μ hr hfl hI
    cases fl with
    | zero => omega
    | succ fl =>
    by_cases hw : w = 0
    · subst hw
      refine ⟨r, μ, ?_, hI, fun _ _ q => q⟩
      unfold f_TR_trace_7
      rw [if_neg (show ¬ 240 ≤ nI r from nI_ge (b := 240) (by omega) (by decide)), hI.2.1, if_pos (by decide)]
    · have hI0 := hI
      obtain ⟨h1, h2, h3, h4, h5, h6, h7⟩ := hI
      have hc := cnt_le (fun i => decide (μ 47 i = 1)) N
      obtain ⟨i, hi, g1, g2⟩ := h4 (w - 1) (by omega)
      have hPi := h6 i hi g2
      have hI1 : trI C N K P (fun x => x = i) (r + 1) (w - 1) (sI μ 46 3 (nI (w - 1))) := by
        refine ⟨h1, rfl, h3, fun x hx => h4 x (by omega), ?_, h6, fun j hj q => ?_⟩
        · show w - 1 + (r + 1) ≤ cnt (fun i => decide (μ 47 i = 1)) N
          omega
        · rcases h7 j hj q with g | ⟨x, q1, q2⟩ | g
          · exact absurd g id
          · by_cases ex : x = w - 1
            · subst ex
              rw [g1] at q2
              exact Or.inl ((nI_eq (by omega) (by omega)).mp q2).symm
            · exact Or.inr (Or.inl ⟨x, by omega, q2⟩)
          · exact Or.inr (Or.inr g)
      have hun : ∀ (z : Int32), f_GE_argumentsOf (C i) (sI μ 46 3 (nI (w - 1))) = some z → f_TR_trace_7 (fl + 1) (nI r) μ = (b1 (if ¬ z = 0 then some (sI μ 46 3 (nI (w - 1))) else b1 (f_TR_reach (C i) (sI μ 46 3 (nI (w - 1)))) fun μ19 => some μ19) fun μ12 => b1 (f_TR_trace_76 (nI r) (nI i) z fu 1 μ12) fun μ28 => f_TR_trace_7 fl (nI (r + 1)) μ28) := by
        intro z hz
        rw [f_TR_trace_7]
        rw [if_neg (show ¬ 240 ≤ nI r from nI_ge (b := 240) (by omega) (by decide)), h2, if_neg (nI_nle (by omega) (by omega)), nI_m1 (by omega), rd_n (by omega) (by decide), b1_s, g1, rd_n (by omega) (by decide), b1_s, h1, hz, b1_s, b1_s, nI_1]
      rcases hPK i hi hPi with hK | hK
      · -- a variable's cell
        obtain ⟨q1, q2⟩ := var_of hR hi hK
        have q1' : (∃ j, j < N ∧ P j ∧ tgt (C i) j) ∨ (kd (C i) ≠ 0 ∧ kd (C i) ≠ 7) := by
          rcases q1 with ⟨j, e1, e2, e3⟩ | e
          · exact Or.inl ⟨j, e1, hP i j hi e1 hPi (Or.inl ⟨hK, e3⟩), e3⟩
          · exact Or.inr e
        obtain ⟨w1, μ1, u1, u2, u3, u4⟩ := reach_s hN hI1 q1'
        have hI2 : trI C N K P (fun _ => False) (r + 1) w1 μ1 := trI_X u2 (fun j hj q => by
          subst q
          refine Or.inr fun k hk hE => ?_
          rcases hE with ⟨-, hE⟩ | ⟨hE, -⟩
          · exact u4 k hk hE
          · omega)
        obtain ⟨r2, μ2, v1, v2, v3⟩ := ih fl (r + 1) w1 μ1 (by omega) (by omega) hI2
        refine ⟨r2, μ2, ?_, v2, fun j hj q => v3 j hj (u3 j hj q)⟩
        rw [hun (nI 0) (by rw [ar_c (kd_e _) (kd_lt _), q2]), if_neg (not_not_intro (show nI 0 = 0 from rfl)), u1, b1_s, b1_s]
        have e0 : f_TR_trace_76 (nI r) (nI i) (nI 0) fu 1 μ1 = some μ1 := by
          rw [show fu = 99999 + 1 from rfl, f_TR_trace_76, if_pos (by decide)]
        rw [e0, b1_s]
        exact v1
      · -- a name's cell
        obtain ⟨a, nm, q1, q2, q3, q4, q5, q6⟩ := arg_of hR hi hK
        have q6' : ∀ m, m < a → (∃ j, j < N ∧ P j ∧ tgt (C (i + 1 + m)) j) ∨ (kd (C (i + 1 + m)) ≠ 0 ∧ kd (C (i + 1 + m)) ≠ 7) := by
          intro m hm
          rcases q6 m hm with ⟨j, e1, e2, e3⟩ | e
          · exact Or.inl ⟨j, e1, hP i j hi e1 hPi (Or.inr ⟨hK, a, nm, m, q4, q3, q2, hm, e3⟩), e3⟩
          · exact Or.inr e
        obtain ⟨w1, μ1, u1, u2, u3, u4⟩ := trace_a (y := nI r) hN q2 q5 q6' a fu 0 (w - 1) _ (by omega) (by unfold fu; omega) hI1
        have hI2 : trI C N K P (fun _ => False) (r + 1) w1 μ1 := trI_X u2 (fun j hj q => by
          subst q
          refine Or.inr fun k hk hE => ?_
          rcases hE with ⟨hE, -⟩ | ⟨-, a2, nm2, m, e1, e2, e3, e4, e5⟩
          · omega
          · have e := (wd_eq (by omega) (by omega) (by omega) (by omega)).mp (e1.symm.trans q4)
            have ea : a2 = a := by omega
            subst ea
            exact u4 m k (by omega) e4 hk e5)
        obtain ⟨r2, μ2, v1, v2, v3⟩ := ih fl (r + 1) w1 μ1 (by omega) (by omega) hI2
        refine ⟨r2, μ2, ?_, v2, fun j hj q => v3 j hj (u3 j hj q)⟩
        rw [hun (nI a) (by rw [q4]; exact ar_sc q3 q1 q2), if_pos (nI_ne0 (by omega) (by omega)), b1_s]
        rw [show f_TR_trace_76 (nI r) (nI i) (nI a) fu 1 (sI μ 46 3 (nI (w - 1))) = some μ1 from u1, b1_s]
        exact v1
/-- between traces: none waits, what was reached is closed -/
def trZ (C : Nat → Int32) (N : Nat) (K : Nat → Nat) (μ : Mu) : Prop :=
  μ 41 = C ∧ μ 46 3 = 0 ∧ (∀ i, i < N → μ 47 i = 0 ∨ μ 47 i = 1) ∧ (∀ i, i < N → μ 47 i = 1 → K i = 1 ∨ K i = 2) ∧ clo C N K (fun i => μ 47 i = 1)
theorem trace_s (hR : cellsR C U T KK V NM A N S φ K τ) {t : Int32} {μ : Mu} (hz : trZ C N K μ) (ht : (∃ i, i < N ∧ (K i = 1 ∨ K i = 2) ∧ tgt t i) ∨ (kd t ≠ 0 ∧ kd t ≠ 7)) :
    ∃ μ', f_TR_trace t μ = some μ' ∧ trZ C N K μ' ∧ (∀ i, i < N → μ 47 i = 1 → μ' 47 i = 1) ∧ (∀ j, j < N → tgt t j → μ' 47 j = 1) ∧ ∀ P, clo C N K P → (∀ j, j < N → tgt t j → P j) → (∀ i, i < N → μ 47 i = 1 → P i) → ∀ i, i < N → μ' 47 i = 1 → P i := by
  have hN := hR.1
  obtain ⟨z1, z2, z3, z4, z5⟩ := hz
  have main : ∀ P, clo C N K P → (∀ j, j < N → tgt t j → P j) → (∀ i, i < N → μ 47 i = 1 → P i) → ∃ μ', f_TR_trace t μ = some μ' ∧ trZ C N K μ' ∧ (∀ i, i < N → μ 47 i = 1 → μ' 47 i = 1) ∧ (∀ j, j < N → tgt t j → μ' 47 j = 1) ∧ ∀ i, i < N → μ' 47 i = 1 → P i := by
    intro P p1 p2 p3
    have hI : trI C N K (fun i => P i ∧ (K i = 1 ∨ K i = 2)) (fun _ => False) 0 0 μ := by
      refine ⟨z1, z2, z3, fun x hx => by omega, by omega, fun i hi q => ⟨p3 i hi q, z4 i hi q⟩, fun i hi q => Or.inr (Or.inr fun j hj hE => z5 i j hi hj q hE)⟩
    have ht2 : (∃ i, i < N ∧ (P i ∧ (K i = 1 ∨ K i = 2)) ∧ tgt t i) ∨ (kd t ≠ 0 ∧ kd t ≠ 7) := by
      rcases ht with ⟨i, e1, e2, e3⟩ | e
      · exact Or.inl ⟨i, e1, ⟨p2 i e1 e3, e2⟩, e3⟩
      · exact Or.inr e
    obtain ⟨w1, μ1, u1, u2, u3, u4⟩ := reach_s hN hI ht2
    have hcl : clo C N K (fun i => P i ∧ (K i = 1 ∨ K i = 2)) := fun i j hi hj q hE => ⟨p1 i j hi hj q.1 hE, clo_K hR i j hi hj q.2 hE⟩
    obtain ⟨r2, μ2, v1, v2, v3⟩ := trace_l hR hcl (fun i hi q => q.2) 240 fu 0 w1 μ1 (by omega) (by unfold fu; omega) u2
    obtain ⟨k1, k2, k3, k4, k5, k6, k7⟩ := v2
    refine ⟨μ2, ?_, ⟨k1, k2, k3, fun i hi q => (k6 i hi q).2, fun i j hi hj q hE => ?_⟩, fun i hi q => v3 i hi (u3 i hi q), fun j hj q => v3 j hj (u4 j hj q), fun i hi q => (k6 i hi q).1⟩
    · unfold f_TR_trace
      rw [u1, b1_s, show f_TR_trace_7 fu 0 μ1 = some μ2 from v1, b1_s]
    · rcases k7 i hi q with g | ⟨x, g, -⟩ | g
      · exact absurd g id
      · omega
      · exact g j hj hE
  obtain ⟨μ', m1, m2, m3, m4, -⟩ := main (fun _ => True) (fun _ _ _ _ _ _ => trivial) (fun _ _ _ => trivial) (fun _ _ _ => trivial)
  refine ⟨μ', m1, m2, m3, m4, fun P p1 p2 p3 => ?_⟩
  obtain ⟨μ2, n1, n2, n3, n4, n5⟩ := main P p1 p2 p3
  rw [m1] at n1
  have e := Option.some.inj n1
  subst e
  exact n5
theorem forget_l (hN : N ≤ 240) (d : Nat) : ∀ (fl i : Nat) (μ : Mu), i + d = N → d < fl → μ 40 1 = nI N → (∀ j, j < i → μ 47 j = 0) → ∃ μ', f_TR_forget_2 fl (nI i) μ = some μ' ∧ ∀ j, j < N → μ' 47 j = 0 := by
  induction d with
  | zero =>
    intro fl i μ hi hfl h1 h2
    cases fl with
    | zero => omega
    | succ fl =>
    refine ⟨μ, ?_, fun j hj => h2 j (by omega)⟩
    unfold f_TR_forget_2
    rw [h1, if_pos (nI_le (by omega) (by omega))]
  | succ d ih =>
    intro fl i μ hi hfl h1 h2
    cases fl with
    | zero => omega
    | succ fl =>
    obtain ⟨μ', u1, u2⟩ := ih fl (i + 1) (sI μ 47 i 0) (by omega) (by omega) h1 (fun j hj => by
      show sI μ 47 i 0 47 j = 0
      by_cases e : j = i
      · subst e; exact sI_at
      · rw [sI_nj e]; exact h2 j (by omega))
    refine ⟨μ', ?_, u2⟩
    unfold f_TR_forget_2
    rw [h1, if_neg (nI_ge (by omega) (by omega)), wz_n (by omega) (by decide) (Or.inl rfl), b1_s, nI_1]
    exact u1
theorem forget_s (hN : N ≤ 240) {μ : Mu} (h1 : μ 40 1 = nI N) (h2 : μ 41 = C) : ∃ μ', f_TR_forget μ = some μ' ∧ trZ C N K μ' ∧ ∀ j, j < N → μ' 47 j = 0 := by
  obtain ⟨μ', u1, u2⟩ := forget_l hN N fu 0 μ (by omega) (by unfold fu; omega) h1 (fun j hj => by omega)
  have e : f_TR_forget μ = some (sI μ' 46 3 0) := by
    unfold f_TR_forget
    rw [show f_TR_forget_2 fu 0 μ = some μ' from u1, b1_s]
  have hno : ∀ j, j < N → ¬ sI μ' 46 3 0 47 j = 1 := by
    intro j hj q
    have q2 : μ' 47 j = 1 := q
    rw [u2 j hj] at q2
    exact absurd q2 (by decide)
  refine ⟨_, e, ⟨?_, rfl, fun i hi => Or.inl (u2 i hi), fun i hi q => absurd q (hno i hi), fun i j hi hj q => absurd q (hno i hi)⟩, u2⟩
  rw [← h2]
  funext j
  exact fr_TR_forget e ⟨fun q => by omega, by decide⟩
end TRB
