section MKB
variable {C U T KK V NM A : Nat → Int32} {N S : Nat} {φ K τ : Nat → Nat}
/-- from one state of the marking to the next: the top entry goes; `nw`: newly marked -/
theorem mkI_n {P Q : Nat → Prop} {mn : Int32} {p p' i : Nat} {ν ν' : Mu} (hI : mkI C KK V NM A N φ K P Q mn (p + 1) ν) (hok : okM KK V NM A ν') (hp : ν' 70 30 = nI p') (hmn : ν' 70 34 = mn)
    (hlow : ∀ x, x < p → ν' 88 x = ν 88 x ∧ ν' 89 x = ν 89 x) (hpp : p ≤ p') (hen : ∀ x, p ≤ x → x < p' → enR N φ K P (ν' 88 x) (ν' 89 x))
    (hnode : ∀ j, j < N → (K j = 1 ∨ K j = 2) → ν' 90 (φ j) = mn → ν 90 (φ j) = mn ∨ j = i) (hmono : ∀ j, j < N → ν 90 (φ j) = mn → ν' 90 (φ j) = mn) (hPi : P i) (hA : mkA C N φ K mn ν')
    (htop : ∀ j, j < N → ν 89 p = nI (φ j) → (ν 88 p = 0 ∨ ν 88 p = 3) → ν' 90 (φ j) = mn) (hE : ∀ j, i < N → j < N → ν' 90 (φ i) = mn → Ed C K i j → wt φ mn p' ν' j) : mkI C KK V NM A N φ K P Q mn p' ν' := by
  obtain ⟨h1, h2, h3, h4, h5, h6, h7, h8⟩ := hI
  have hwt : ∀ j, j < N → wt φ mn (p + 1) ν j → wt φ mn p' ν' j := by
    intro j hj q
    rcases q with q | ⟨x, x1, x2, x3⟩
    · exact Or.inl (hmono j hj q)
    · by_cases e : x = p
      · subst e; exact Or.inl (htop j hj x2 x3)
      · obtain ⟨y1, y2⟩ := hlow x (by omega)
        exact Or.inr ⟨x, by omega, by rw [y2]; exact x2, by rw [y1]; exact x3⟩
  refine ⟨hok, hp, hmn, fun x hx => ?_, fun j hj hK q => ?_, hA, fun a b ha hb hK q hab => ?_, fun j hj q => hwt j hj (h8 j hj q)⟩
  · by_cases e : x < p
    · rw [(hlow x e).1, (hlow x e).2]; exact h4 x (by omega)
    · exact hen x (by omega) hx
  · rcases hnode j hj hK q with g | g
    · exact h5 j hj hK g
    · rw [g]; exact hPi
  · rcases hnode a ha hK q with g | g
    · exact hwt b hb (h7 a b ha hb hK g hab)
    · subst g; exact hE b ha hb q hab
theorem unm_d (hR : cellsR C U T KK V NM A N S φ K τ) {mn : Int32} {i : Nat} {ν ν' : Mu} (hi : i < N) (hK : K i = 1 ∨ K i = 2) (h1 : ν 90 (φ i) ≠ mn) (h2 : ν' 90 (φ i) = mn) (h3 : ∀ j, j < N → (K j = 1 ∨ K j = 2) → j ≠ i → ν' 90 (φ j) = ν 90 (φ j)) : unm N φ K mn ν = unm N φ K mn ν' + 1 := by
  unfold unm
  refine cnt_set (k := i) hi (fun j hj hne => ?_) (decide_eq_false fun q => q.2 h2) (decide_eq_true ⟨hK, h1⟩)
  by_cases e : K j = 1 ∨ K j = 2
  · rw [h3 j hj e hne]
  · rw [decide_eq_false (fun q => e q.1), decide_eq_false (fun q => e q.1)]
theorem mark_1 (hR : cellsR C U T KK V NM A N S φ K τ) {P Q : Nat → Prop} (hP : clo C N K P) {mn : Int32} {p : Nat} {ν : Mu} (hI : mkI C KK V NM A N φ K P Q mn (p + 1) ν) (hb : p + 1 + 3 * unm N φ K mn ν ≤ 1600) :
    ∃ p' ν', (∀ fl, f_MO_mark_6 (fl + 1) ν = f_MO_mark_6 fl ν') ∧ mkI C KK V NM A N φ K P Q mn p' ν' ∧ p' + 3 * unm N φ K mn ν' < p + 1 + 3 * unm N φ K mn ν ∧ ∀ j, j < N → ν 90 (φ j) = mn → ν' 90 (φ j) = mn := by
  have hI0 := hI
  obtain ⟨h1, h2, h3, h4, h5, h6, h7, h8⟩ := hI
  have hN := hR.1
  have hun : ∀ fl, f_MO_mark_6 (fl + 1) ν = (b1 (if ¬ ν 88 p = 0 then (if ¬ ν 88 p = 3 then some (sI ν 70 30 (nI p)) else b1 (rd (ν 90) 240 (ν 89 p)) fun v16 => if v16 = ν 70 34 then some (sI ν 70 30 (nI p)) else b1 (wr (sI ν 70 30 (nI p)) 90 240 (ν 89 p) (ν 70 34)) fun μ19 => b1 (f_MO_mark_135 (ν 89 p) fu 0 μ19) fun μ32 => b1 (f_MO_pushArguments (ν 89 p) μ32) fun μ37 => some μ37) else b1 (rd (ν 90) 240 (ν 89 p)) fun v39 => if v39 = ν 70 34 then some (sI ν 70 30 (nI p)) else b1 (wr (sI ν 70 30 (nI p)) 90 240 (ν 89 p) (ν 70 34)) fun μ68 => b1 (rd (μ68 76) 240 (ν 89 p)) fun v71 => if v71 < 0 then some μ68 else b1 (rd (μ68 76) 240 (ν 89 p)) fun v74 => b1 (rd (μ68 77) 240 (ν 89 p)) fun v76 => b1 (f_MO_push v74 v76 μ68) fun μ79 => some μ79) fun μ9 => f_MO_mark_6 fl μ9) := by
    intro fl
    rw [f_MO_mark_6]
    rw [h2, if_neg (nI_nle (by omega) (by omega)), nI_pred, rd_n (by omega) (by decide), b1_s, rd_n (by omega) (by decide), b1_s]
    by_cases e0 : ν 88 p = 0
    · rw [if_neg (not_not_intro e0), if_neg (not_not_intro e0), b1_s]
      rw [if_pos (show ¬ ν 88 p = 3 by rw [e0]; decide)]
    · rw [if_pos e0, if_pos e0, b1_s]
  rcases h4 p (by omega) with ⟨i, hi, hPi, hk, hv⟩ | ⟨k0, k3⟩
  · by_cases hm : ν 90 (φ i) = mn
    · -- marked already
      refine ⟨p, sI ν 70 30 (nI p), fun fl => ?_, ?_, ?_, fun _ _ q => q⟩
      · rw [hun, hv]
        obtain ⟨a1, -⟩ := hR.2.2.1 i hi
        rcases hk with ⟨k, -⟩ | ⟨k, -⟩
        · rw [if_neg (not_not_intro k), rd_n a1 (by decide), b1_s, if_pos (hm.trans h3.symm), b1_s]
        · rw [if_pos (show ¬ ν 88 p = 0 by rw [k]; decide), if_neg (not_not_intro k), rd_n a1 (by decide), b1_s, if_pos (hm.trans h3.symm), b1_s]
      · refine mkI_n (i := i) hI0 h1 rfl h3 (fun _ _ => ⟨rfl, rfl⟩) (Nat.le_refl _) (fun x q1 q2 => by omega) (fun j _ _ q => Or.inl q) (fun j _ q => q) hPi h6 ?_ ?_
        · intro j hj q _
          rw [hv] at q
          obtain ⟨a1, -⟩ := hR.2.2.1 i hi
          obtain ⟨b1, -⟩ := hR.2.2.1 j hj
          rw [← (nI_eq (by omega) (by omega)).mp q]
          exact hm
        · intro j hi hj q hE
          have hKi : K i = 1 ∨ K i = 2 := by rcases hk with ⟨-, k⟩ | ⟨-, k⟩ <;> omega
          rcases h7 i j hi hj hKi hm hE with g | ⟨x, x1, x2, x3⟩
          · exact Or.inl g
          · by_cases e : x = p
            · subst e
              rw [hv] at x2
              obtain ⟨a1, -⟩ := hR.2.2.1 i hi
              obtain ⟨b1, -⟩ := hR.2.2.1 j hj
              have e2 := (nI_eq (by omega) (by omega)).mp x2
              exact Or.inl (show ν 90 (φ j) = mn by rw [← e2]; exact hm)
            · exact Or.inr ⟨x, by omega, x2, x3⟩
      · show p + 3 * unm N φ K mn ν < _
        omega
    · obtain ⟨a1, -⟩ := hR.2.2.1 i hi
      have htop : ∀ j, j < N → ν 89 p = nI (φ j) → j = i := by
        intro j hj q
        rw [hv] at q
        obtain ⟨b1, -⟩ := hR.2.2.1 j hj
        exact (phi_inj hR hi hj ((nI_eq (by omega) (by omega)).mp q)).symm
      rcases hk with ⟨k, hK⟩ | ⟨k, hK⟩
      · -- a variable
        have hne : ∀ j, j < N → j ≠ i → sI (sI ν 70 30 (nI p)) 90 (φ i) mn 90 (φ j) = ν 90 (φ j) := by
          intro j hj hji
          rw [sI_nj (fun q => hji (phi_inj hR hj hi q))]
          rfl
        have hmono : ∀ j, j < N → ν 90 (φ j) = mn → sI (sI ν 70 30 (nI p)) 90 (φ i) mn 90 (φ j) = mn := by
          intro j hj q
          by_cases e : j = i
          · subst e; exact sI_at
          · rw [hne j hj e]; exact q
        have hA' : mkA C N φ K mn (sI (sI ν 70 30 (nI p)) 90 (φ i) mn) := by
          intro s a nm m g1 g2 g3 g4 g5 g6
          obtain ⟨a', nm', e1, e2, e3, e4, e5, e6, e7, e8⟩ := st_of hR g1 g2
          have e := (wd_eq (by omega) (by omega) (by omega) (by omega)).mp (g3.symm.trans e4)
          have ea : a' = a := by omega
          subst ea
          rw [hne s g1 (fun q => by rw [q] at g2; omega), hne (s + 1 + m) (by omega) (fun q => by have := (e8 m g6).2.2.1; rw [q] at this; omega)]
          exact h6 s a' nm m g1 g2 g3 g4 g5 g6
        have hd := unm_d hR (ν := ν) (ν' := sI (sI ν 70 30 (nI p)) 90 (φ i) mn) hi (Or.inl hK) hm sI_at (fun j hj _ hne2 => hne j hj hne2)
        obtain ⟨hN2, hS, hφ, hτ, hu, hc⟩ := hR
        rcases hc i hi with ⟨-, ⟨u1, u2⟩ | ⟨u1, u2, u3⟩⟩ | ⟨q1, -⟩ | ⟨q1, -⟩
        · -- free
          refine ⟨p, sI (sI ν 70 30 (nI p)) 90 (φ i) mn, fun fl => ?_, ?_, ?_, hmono⟩
          · rw [hun, hv, if_neg (not_not_intro k), rd_n a1 (by decide), b1_s, h3, if_neg hm, wr_n a1 (by decide), b1_s, show sI (sI ν 70 30 (nI p)) 90 (φ i) mn 76 = KK from h1.1, rd_n a1 (by decide), b1_s, u2, if_pos (by decide), b1_s]
          · refine mkI_n (i := i) hI0 h1 rfl h3 (fun _ _ => ⟨rfl, rfl⟩) (Nat.le_refl _) (fun x q1 q2 => by omega) (fun j hj _ q => ?_) hmono hPi hA' (fun j hj q _ => ?_) (fun j _ hj _ hE => ?_)
            · by_cases e : j = i
              · exact Or.inr e
              · rw [hne j hj e] at q; exact Or.inl q
            · rw [htop j hj q]; exact sI_at
            · rcases hE with ⟨-, hE⟩ | ⟨hE, -⟩
              · rw [u1] at hE
                have e := tgt_u (i := i) (Or.inl rfl) hE (by omega) (by omega)
                subst e
                exact Or.inl sI_at
              · omega
          · omega
        · -- bound
          obtain ⟨ν2, w1, w2, w3, w4, w5⟩ := push_s (ν := sI (sI ν 70 30 (nI p)) 90 (φ i) mn) (p := p) (k := KK (φ i)) (v := V (φ i)) rfl (by omega)
          have hm90 : ν2 90 = sI (sI ν 70 30 (nI p)) 90 (φ i) mn 90 := w5.1 90 (by decide) (by decide) (by decide)
          refine ⟨p + 1, ν2, fun fl => ?_, ?_, ?_, fun j hj q => by rw [hm90]; exact hmono j hj q⟩
          · rw [hun, hv, if_neg (not_not_intro k), rd_n a1 (by decide), b1_s, h3, if_neg hm, wr_n a1 (by decide), b1_s, show sI (sI ν 70 30 (nI p)) 90 (φ i) mn 76 = KK from h1.1, rd_n a1 (by decide), b1_s, if_neg (tmR_kpos u2), b1_s, show sI (sI ν 70 30 (nI p)) 90 (φ i) mn 77 = V from h1.2.1, rd_n a1 (by decide), b1_s, w1, b1_s, b1_s]
          · refine mkI_n (i := i) hI0 (pfr_ok w5 h1) w2 ?_ (fun x hx => w5.2.2 x hx) (by omega) (fun x q1 q2 => ?_) (fun j hj _ q => ?_) (fun j hj q => by rw [hm90]; exact hmono j hj q) hPi ?_ (fun j hj q _ => ?_) (fun j _ hj _ hE => ?_)
            · rw [w5.2.1 34 (by decide)]; exact h3
            · have e : x = p := by omega
              subst e
              rw [w3, w4]
              exact tm_en u2 (fun j hj q => hP i j hi hj hPi (Or.inl ⟨hK, q⟩))
            · rw [hm90] at q
              by_cases e : j = i
              · exact Or.inr e
              · rw [hne j hj e] at q; exact Or.inl q
            · unfold mkA
              rw [hm90]
              exact hA'
            · rw [htop j hj q, hm90]; exact sI_at
            · rcases hE with ⟨-, hE⟩ | ⟨hE, -⟩
              · obtain ⟨y1, y2⟩ := tm_nm u2 hN hj hE
                exact Or.inr ⟨p, by omega, by rw [w4]; exact y1, by rw [w3]; exact y2⟩
              · omega
          · have : unm N φ K mn ν2 = unm N φ K mn (sI (sI ν 70 30 (nI p)) 90 (φ i) mn) := by unfold unm; rw [hm90]
            omega
        · omega
        · omega
      · -- a structure
        obtain ⟨a, nm, g1, g2, g3, g4, g5, g6, g7, g8⟩ := st_of hR hi hK
        obtain ⟨ν1, v1, v2, v3, v4, v5⟩ := mark_a (KK := KK) (V := V) (NM := NM) (A := A) (mn := mn) (ψ := fun m => φ (i + 1 + m)) a1 g1 g2 g3 g5 (fun m hm => ⟨(g8 m hm).1, (g8 m hm).2.1⟩) a fu 0 (sI (sI ν 70 30 (nI p)) 90 (φ i) mn) (by omega) (by unfold fu; omega) h1 h3
        have hok1 : okM KK V NM A ν1 := ⟨(v2 76 (by decide)).trans h1.1, (v2 77 (by decide)).trans h1.2.1, (v2 78 (by decide)).trans h1.2.2.1, (v2 79 (by decide)).trans h1.2.2.2⟩
        have hp1 : ν1 70 30 = nI p := by rw [v2 70 (by decide)]; rfl
        have hpos : 0 < unm N φ K mn ν := by
          have := unm_d hR (ν := ν) (ν' := sI ν 90 (φ i) mn) hi (Or.inr hK) hm sI_at (fun j hj _ hji => sI_nj (fun q => hji (phi_inj hR hj hi q)))
          omega
        obtain ⟨ν2, w1, w2, w3, w4⟩ := pa_s hR hi hK g4 g1 g2 g3 hok1 hp1 (by omega)
        have hm90 : ν2 90 = ν1 90 := w4.1 90 (by decide) (by decide) (by decide)
        have hone : ∀ j, j < N → j ≠ i → (∀ m, m < a → j ≠ i + 1 + m) → ν2 90 (φ j) = ν 90 (φ j) := by
          intro j hj hji hjm
          rw [hm90, v5 (φ j) (fun n hn q => hjm n hn (phi_inj hR hj (by omega) q)), sI_nj (fun q => hji (phi_inj hR hj hi q))]
          rfl
        have hself : ν2 90 (φ i) = mn := by rw [hm90]; exact v4 _ sI_at
        have hargs : ∀ m, m < a → ν2 90 (φ (i + 1 + m)) = mn := by
          intro m hm
          rw [hm90]; exact v3 m (by omega) hm
        have hmono : ∀ j, j < N → ν 90 (φ j) = mn → ν2 90 (φ j) = mn := by
          intro j hj q
          rw [hm90]
          apply v4
          by_cases e : j = i
          · subst e; exact sI_at
          · rw [sI_nj (fun q => e (phi_inj hR hj hi q))]; exact q
        have hnode : ∀ j, j < N → (K j = 1 ∨ K j = 2) → j ≠ i → ν2 90 (φ j) = ν 90 (φ j) := by
          intro j hj hKj hji
          exact hone j hj hji (fun m hm q => by have := (g8 m hm).2.2.1; rw [← q] at this; omega)
        have hd := unm_d hR (ν := ν) (ν' := ν2) hi (Or.inr hK) hm hself hnode
        refine ⟨p + a, ν2, fun fl => ?_, ?_, by omega, hmono⟩
        · rw [hun, hv, if_pos (show ¬ ν 88 p = 0 by rw [k]; decide), if_neg (not_not_intro k), rd_n a1 (by decide), b1_s, h3, if_neg hm, wr_n a1 (by decide), b1_s]
          rw [show f_MO_mark_135 (nI (φ i)) fu 0 (sI (sI ν 70 30 (nI p)) 90 (φ i) mn) = some ν1 from v1, b1_s, w1, b1_s, b1_s]
        · refine mkI_n (i := i) hI0 (pfr_ok w4 hok1) w2 ?_ (fun x hx => ?_) (by omega) (fun x q1 q2 => ?_) (fun j hj hKj q => ?_) hmono hPi ?_ (fun j hj q _ => ?_) (fun j _ hj _ hE => ?_)
          · rw [w4.2.1 34 (by decide), v2 70 (by decide)]; exact h3
          · rw [(w4.2.2 x hx).1, (w4.2.2 x hx).2, v2 88 (by decide), v2 89 (by decide)]; exact ⟨rfl, rfl⟩
          · obtain ⟨y1, y2⟩ := w3 (a - 1 - (x - p)) (by omega)
            rw [show p + (a - 1 - (a - 1 - (x - p))) = x by omega] at y1 y2
            rw [y1, y2]
            obtain ⟨-, -, -, z⟩ := g8 (a - 1 - (x - p)) (by omega)
            exact tm_en z (fun j hj q => hP i j hi hj hPi (Or.inr ⟨hK, a, nm, _, g4, g3, g2, by omega, q⟩))
          · by_cases e : j = i
            · exact Or.inr e
            · rw [hnode j hj hKj e] at q; exact Or.inl q
          · intro s a2 nm2 m e1 e2 e3 e4 e5 e6
            obtain ⟨a', nm', f1, f2, f3, f4, f5, f6, f7, f8⟩ := st_of hR e1 e2
            have e := (wd_eq (by omega) (by omega) (by omega) (by omega)).mp (e3.symm.trans f4)
            have ea : a' = a2 := by omega
            subst ea
            by_cases es : s = i
            · subst es
              have e := (wd_eq (by omega) (by omega) (by omega) (by omega)).mp (g4.symm.trans f4)
              exact ⟨fun _ => hself, fun _ => hargs m (by omega)⟩
            · rw [hone s e1 es (fun m hm q => by have := (g8 m hm).2.2.1; rw [← q] at this; omega), hone (s + 1 + m) (by omega) (fun q => by have := (f8 m e6).2.2.1; rw [q] at this; omega) (fun n hn q => es (own_u hR e1 hi e2 hK e6 hn (fun x hx => (f8 x hx).2.2.1) (fun x hx => (g8 x hx).2.2.1) q))]
              exact h6 s a' nm2 m e1 e2 e3 e4 e5 e6
          · rw [htop j hj q]; exact hself
          · rcases hE with ⟨hE, -⟩ | ⟨-, a2, nm2, m, e1, e2, e3, e4, e5⟩
            · omega
            · have e := (wd_eq (by omega) (by omega) (by omega) (by omega)).mp (e1.symm.trans g4)
              have ea : a2 = a := by omega
              subst ea
              obtain ⟨-, -, -, z⟩ := g8 m e4
              obtain ⟨y1, y2⟩ := tm_nm z hN hj e5
              obtain ⟨x1, x2⟩ := w3 m e4
              exact Or.inr ⟨p + (a2 - 1 - m), by omega, by rw [x2]; exact y1, by rw [x1]; exact y2⟩
  · -- nothing hangs on it
    refine ⟨p, sI ν 70 30 (nI p), fun fl => ?_, ?_, ?_, fun _ _ q => q⟩
    · rw [hun, if_pos k0, if_pos k3, b1_s]
    · refine ⟨h1, rfl, h3, fun x hx => h4 x (by omega), h5, h6, fun i j hi hj hK q hE => ?_, fun j hj q => ?_⟩
      · rcases h7 i j hi hj hK q hE with g | ⟨x, x1, x2, x3⟩
        · exact Or.inl g
        · by_cases e : x = p
          · subst e; rcases x3 with x3 | x3
            · exact absurd x3 k0
            · exact absurd x3 k3
          · exact Or.inr ⟨x, by omega, x2, x3⟩
      · rcases h8 j hj q with g | ⟨x, x1, x2, x3⟩
        · exact Or.inl g
        · by_cases e : x = p
          · subst e; rcases x3 with x3 | x3
            · exact absurd x3 k0
            · exact absurd x3 k3
          · exact Or.inr ⟨x, by omega, x2, x3⟩
    · show p + 3 * unm N φ K mn ν < _
      omega
end MKB
