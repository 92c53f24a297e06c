/-! clauses: what the class reads, what the reference counts -/
section CLS
def hasB (W : Nat → Int32) (v : Nat) : Nat → Bool
  | 0 => false
  | n + 1 => hasB W v n || decide (W n = wd v 0)
theorem hasB_t {W : Nat → Int32} {v n : Nat} : hasB W v n = true ↔ ∃ j, j < n ∧ W j = wd v 0 := by
  induction n with
  | zero => exact ⟨(fun h => by cases h), (fun ⟨i, h, _⟩ => by omega)⟩
  | succ n ih =>
    unfold hasB
    rw [Bool.or_eq_true, ih]
    constructor
    · rintro (⟨i, h1, h2⟩ | h)
      · exact ⟨i, by omega, h2⟩
      · exact ⟨n, by omega, of_decide_eq_true h⟩
    · rintro ⟨i, h1, h2⟩
      by_cases e : i = n
      · subst e; exact Or.inr (decide_eq_true h2)
      · exact Or.inl ⟨i, by omega, h2⟩
theorem hv_l {ob nof from' L v : Nat} {W : Nat → Int32} {ν : Mu} (hL : L ≤ 30) (hnof : from' + L ≤ nof) (hn2 : nof < 2 ^ 30) (hv : v < 8) (hw : ∀ j, j < L → ν ob (from' + j) = W j) (d : Nat) : ∀ (fl i : Nat), i + d = L → d < fl → f_MO_hasVariable_6 ob nof (nI from') (nI L) (nI v) fl (bI (hasB W v i)) (nI (from' + i)) ν = some (bI (hasB W v L)) := by
  induction d with
  | zero =>
    intro fl i h1 h2
    cases fl with
    | zero => omega
    | succ fl =>
    unfold f_MO_hasVariable_6
    rw [nI_add, if_pos (nI_le (by omega) (by omega)), show i = L by omega]
  | succ d ih =>
    intro fl i h1 h2
    cases fl with
    | zero => omega
    | succ fl =>
    have hr := ih fl (i + 1) (by omega) (by omega)
    unfold f_MO_hasVariable_6
    rw [nI_add, if_neg (nI_ge (by omega) (by omega)), nI_1, show from' + i + 1 = from' + (i + 1) by omega]
    have e8 : (8 : Int32) * nI v = wd v 0 := by
      have := pk_mul 8 v
      exact this
    cases hb : hasB W v i with
    | true =>
      rw [if_pos (by decide), b1_s]
      have e : hasB W v (i + 1) = true := by unfold hasB; rw [hb]; rfl
      rw [e] at hr
      exact hr
    | false =>
      rw [if_neg (not_not_intro (show bI false = 0 from rfl)), rd_n (by omega) (by omega), b1_s, e8, hw i (by omega)]
      by_cases e : W i = wd v 0
      · rw [if_neg (not_not_intro e), b1_s]
        have e : hasB W v (i + 1) = true := by unfold hasB; rw [hb, decide_eq_true e]; rfl
        rw [e] at hr
        exact hr
      · rw [if_pos e, b1_s]
        have e : hasB W v (i + 1) = false := by unfold hasB; rw [hb, decide_eq_false e]; rfl
        rw [e] at hr
        exact hr
theorem bI_01 (b : Bool) : bI b = 0 ∨ bI b = 1 := by cases b <;> decide
theorem hv_s {ob nof from' L v : Nat} {W : Nat → Int32} {ν : Mu} (ho : ofPb ob nof = true) (hL : L ≤ 30) (hnof : from' + L ≤ nof) (hn2 : nof < 2 ^ 30) (hv : v < 8) (hw : ∀ j, j < L → ν ob (from' + j) = W j) : f_MO_hasVariable ob nof (nI from') (nI L) (nI v) ν = some (bI (hasB W v L)) := by
  unfold f_MO_hasVariable
  rw [if_pos ho, show f_MO_hasVariable_6 ob nof (nI from') (nI L) (nI v) fu 0 (nI from') ν = _ from hv_l hL hnof hn2 hv hw L fu 0 (by omega) (by unfold fu; omega), b1_s, if_pos (bI_01 _)]
theorem sca_s {f : Nat → Nat} (r : Nat) : ∀ i, sca f (r + 1) i = sca f r i + ca (f (i + r)) := by
  induction r with
  | zero => intro i; show ca (f i) + 0 = 0 + ca (f i); omega
  | succ r ih =>
    intro i
    show ca (f i) + sca f (r + 1) (i + 1) = ca (f i) + sca f r (i + 1) + ca (f (i + (r + 1)))
    rw [ih (i + 1), show i + 1 + r = i + (r + 1) by omega]
    omega
/-- the cells that the reference says a copy needs -/
theorem nd_s {ob nof from' L : Nat} {W : Nat → Int32} {ν : Mu} (ho : ofPb ob nof = true) (hL : L ≤ 30) (hnof : from' + L ≤ nof) (hn2 : nof < 2 ^ 30) (hw : ∀ j, j < L → ν ob (from' + j) = W j) : f_MO_needs ob nof (nI from') (nI L) ν = some (nI (cnt (fun v => hasB W v L) 8 + sca (fun j => kd (W j)) L 0)) := by
  have k1 : ∀ (d fl v : Nat), v + d = 8 → d < fl → f_MO_needs_6 ob nof (nI from') (nI L) fl (nI (cnt (fun v => hasB W v L) v)) (nI v) ν = some (nI (cnt (fun v => hasB W v L) 8)) := by
    intro d
    induction d with
    | zero =>
      intro fl v h1 h2
      cases fl with
      | zero => omega
      | succ fl =>
      have e : v = 8 := by omega
      subst e
      unfold f_MO_needs_6
      rw [if_pos (by decide)]
    | succ d ih =>
      intro fl v h1 h2
      cases fl with
      | zero => omega
      | succ fl =>
      have hr := ih fl (v + 1) (by omega) (by omega)
      rw [cnt_s] at hr
      unfold f_MO_needs_6
      rw [if_neg (show ¬ 8 ≤ nI v from nI_ge (b := 8) (by omega) (by decide)), hv_s ho hL hnof hn2 (by omega) hw, b1_s, nI_1]
      cases hb : hasB W v L with
      | true =>
        rw [if_neg (show ¬ bI true = 0 by decide), b1_s, nI_1]
        rw [hb, if_pos rfl] at hr
        exact hr
      | false =>
        rw [if_pos (show bI false = 0 from rfl), b1_s, show nI (cnt (fun v => hasB W v L) v) + 0 = nI (cnt (fun v => hasB W v L) v + 0) from nI_add _ 0]
        rw [hb, if_neg (by decide)] at hr
        exact hr
  have k2 : ∀ (d fl i : Nat), i + d = L → d < fl → f_MO_needs_44 ob nof (nI from') (nI L) fl (nI (cnt (fun v => hasB W v L) 8 + sca (fun j => kd (W j)) i 0)) (nI (from' + i)) ν = some (nI (cnt (fun v => hasB W v L) 8 + sca (fun j => kd (W j)) L 0)) := by
    intro d
    induction d with
    | zero =>
      intro fl i h1 h2
      cases fl with
      | zero => omega
      | succ fl =>
      unfold f_MO_needs_44
      rw [nI_add, if_pos (nI_le (by omega) (by omega)), show i = L by omega]
    | succ d ih =>
      intro fl i h1 h2
      cases fl with
      | zero => omega
      | succ fl =>
      have hr := ih fl (i + 1) (by omega) (by omega)
      rw [sca_s, Nat.zero_add] at hr
      have har := arK_le (kd (W i))
      unfold f_MO_needs_44
      rw [nI_add, if_neg (nI_ge (by omega) (by omega)), nI_1, show from' + i + 1 = from' + (i + 1) by omega, rd_n (by omega) (by omega), b1_s, hw i (by omega), ar_m (kd_e _) (kd_lt _), b1_s]
      by_cases e : arK (kd (W i)) = 0
      · rw [e, if_pos (by decide), b1_s]
        rw [show ca (kd (W i)) = 0 by unfold ca; rw [if_pos e]] at hr
        rw [show nI (cnt (fun v => hasB W v L) 8 + sca (fun j => kd (W j)) i 0) + 0 = nI (cnt (fun v => hasB W v L) 8 + sca (fun j => kd (W j)) i 0 + 0) from nI_add _ 0]
        exact hr
      · rw [if_neg (nI_nle (by omega) (by omega)), b1_s, ar_m (kd_e _) (kd_lt _), b1_s, b1_s, show (1 : Int32) + nI (arK (kd (W i))) = nI (1 + arK (kd (W i))) from nI_add 1 _, nI_add]
        rw [show ca (kd (W i)) = 1 + arK (kd (W i)) by unfold ca; rw [if_neg e]] at hr
        rw [Nat.add_assoc]
        exact hr
  unfold f_MO_needs
  rw [if_pos ho, show f_MO_needs_6 ob nof (nI from') (nI L) fu 0 0 ν = _ from k1 8 fu 0 (by omega) (by unfold fu; omega), b1_s, show f_MO_needs_44 ob nof (nI from') (nI L) fu (nI (cnt (fun v => hasB W v L) 8)) (nI from') ν = _ from k2 L fu 0 (by omega) (by unfold fu; omega), b1_s]
theorem mk_or : ∀ m, m < 256 → ∀ v, v < 8 → nI m ||| (1 <<< (nI v &&& 31)) = nI (m ||| 2 ^ v) := by decide +kernel
theorem mk_bit : ∀ m, m < 256 → ∀ v, v < 8 → (((nI m >>> (nI v &&& 31)) &&& 1) = 1 ↔ Nat.testBit m v = true) := by decide +kernel
theorem mk_cnt : ∀ m, m < 256 → jbit (nI m) = nI (cnt (Nat.testBit m) 8) := by decide +kernel
/-- the class reads a clause -/
theorem rd_l {q L : Nat} {W : Nat → Int32} (hq : q + 1 < 40) (hq2 : 4 < q) (hL : L ≤ 30) (hW : ∀ j, j < L → wOK (W j)) (d : Nat) : ∀ (fl i m : Nat) (μ : Mu), i + d = L → d < fl → (∀ j, j < L → μ 2 j = W j) → (∀ j, j < i → μ (q + 1) j = W j) → m < 256 → (∀ v, v < 8 → Nat.testBit m v = hasB W v i) → μ q 2 = nI m → μ q 3 = nI (sca (fun j => kd (W j)) i 0) →
    ∃ μ' m', f_CL_read_17 q (nI L) fl (nI i) μ = some μ' ∧ m' < 256 ∧ (∀ v, v < 8 → Nat.testBit m' v = hasB W v L) ∧ μ' q 2 = nI m' ∧ μ' q 3 = nI (sca (fun j => kd (W j)) L 0) ∧ (∀ j, j < L → μ' (q + 1) j = W j) ∧ μ' q 1 = μ q 1 := by
  induction d with
  | zero =>
    intro fl i m μ h1 h2 h3 h4 h5 h6 h7 h8
    cases fl with
    | zero => omega
    | succ fl =>
    have e : i = L := by omega
    subst e
    refine ⟨μ, m, ?_, h5, h6, h7, h8, h4, rfl⟩
    unfold f_CL_read_17
    rw [if_pos (nI_le (Nat.le_refl _) (by omega))]
  | succ d ih =>
    intro fl i m μ h1 h2 h3 h4 h5 h6 h7 h8
    cases fl with
    | zero => omega
    | succ fl =>
    have hwi := h3 i (by omega)
    have har := arK_le (kd (W i))
    -- the three writes
    have e2 : sI μ (q + 1) i (W i) 2 = μ 2 := sI_nk (by omega)
    have eq : sI μ (q + 1) i (W i) q = μ q := sI_nk (by omega)
    have hsc : ∃ μ11, (if nI (arK (kd (W i))) ≤ 0 then some (sI μ (q + 1) i (W i)) else some (sI (sI μ (q + 1) i (W i)) q 3 (sI μ (q + 1) i (W i) q 3 + (1 + nI (arK (kd (W i))))))) = some μ11 ∧ μ11 2 = μ 2 ∧ μ11 q 1 = μ q 1 ∧ μ11 q 2 = μ q 2 ∧ μ11 q 3 = nI (sca (fun j => kd (W j)) (i + 1) 0) ∧ μ11 (q + 1) = upd (μ (q + 1)) i (W i) := by
      rw [sca_s, Nat.zero_add]
      by_cases e : arK (kd (W i)) = 0
      · refine ⟨sI μ (q + 1) i (W i), by rw [e, if_pos (by decide)], e2, by rw [eq], by rw [eq], ?_, sI_r⟩
        rw [eq, h8]
        show nI _ = nI (_ + ca (kd (W i)))
        unfold ca
        rw [if_pos e, Nat.add_zero]
      · refine ⟨_, by rw [if_neg (nI_nle (by omega) (by omega))], ?_, ?_, ?_, ?_, ?_⟩
        · rw [sI_nk (by omega)]; exact e2
        · rw [sI_nj (by omega), eq]
        · rw [sI_nj (by omega), eq]
        · rw [sI_at, eq, h8, show (1 : Int32) + nI (arK (kd (W i))) = nI (1 + arK (kd (W i))) from nI_add 1 _, nI_add]
          show nI _ = nI (_ + ca (kd (W i)))
          unfold ca
          rw [if_neg e]
        · rw [sI_nk (by omega)]; exact sI_r
    obtain ⟨μ11, s1, s2, s3, s4, s5, s6⟩ := hsc
    have hrow : ∀ j, j < i + 1 → μ11 (q + 1) j = W j := by
      intro j hj
      rw [s6]
      by_cases e : j = i
      · subst e; exact upd_a
      · rw [upd_n e]; exact h4 j (by omega)
    have hstep : ∀ μ18, (if ¬ (W i &&& 7) = 0 then some μ11 else b1 (rd (μ11 2) 30 (nI i)) fun v22 => some (sI μ11 q 2 (μ11 q 2 ||| (1 <<< ((v22 >>> ((3 : Int32) &&& 31)) &&& 31))))) = some μ18 → f_CL_read_17 q (nI L) (fl + 1) (nI i) μ = f_CL_read_17 q (nI L) fl (nI (i + 1)) μ18 := by
      intro μ18 h
      rw [f_CL_read_17]
      rw [if_neg (nI_ge (by omega) (by omega)), rd_n (by omega) (by decide), b1_s, hwi, wr_n (by omega) (by decide), b1_s, e2, rd_n (by omega) (by decide), b1_s, hwi, ar_c (kd_e _) (kd_lt _), b1_s, s1, b1_s, s2, rd_n (by omega) (by decide), b1_s, hwi]
      rw [s2, rd_n (by omega) (by decide), hwi] at h
      rw [h, b1_s, nI_1]
    by_cases e : kd (W i) = 0
    · -- a variable
      have hvx : ∃ v, v < 8 ∧ W i = wd v 0 := by
        rcases hW i (by omega) with q | q | ⟨v, a, q1, q2, q3⟩ | q
        · exact q
        · omega
        · rw [q3, kd_wd (by omega) (by omega)] at e; omega
        · rw [q, kd_wd (by omega) (by omega)] at e; omega
      obtain ⟨v, v1, v2⟩ := hvx
      have hm' : m ||| 2 ^ v < 256 := by
        have : 2 ^ v < 2 ^ 8 := Nat.pow_lt_pow_right (by decide) v1
        exact Nat.or_lt_two_pow (n := 8) h5 this
      obtain ⟨μ', m', u1, u2, u3, u4, u5, u6, u7⟩ := ih fl (i + 1) (m ||| 2 ^ v) (sI μ11 q 2 (nI (m ||| 2 ^ v))) (by omega) (by omega) (fun j hj => by rw [sI_nk (by omega), s2]; exact h3 j hj) (fun j hj => by rw [sI_nk (by omega)]; exact hrow j hj) hm' (fun u hu => by
        rw [Nat.testBit_or, h6 u hu, Nat.testBit_two_pow]
        show _ = (hasB W u i || decide (W i = wd u 0))
        congr 1
        rw [v2]
        apply decide_eq_decide.mpr
        constructor
        · intro w; rw [w]
        · intro w; exact ((wd_eq (by omega) (by omega) (by omega) (by omega)).mp w).1) sI_at (by rw [sI_nj (by omega)]; exact s5)
      refine ⟨μ', m', ?_, u2, u3, u4, u5, u6, ?_⟩
      · rw [hstep (sI μ11 q 2 (nI (m ||| 2 ^ v)))]
        · exact u1
        · rw [if_neg (not_not_intro (k_eq 0 e)), s2, rd_n (by omega) (by decide), b1_s, hwi, v2, wd_v (by omega) (by omega), s4, h7, mk_or m h5 v v1]
      · rw [u7, sI_nj (by omega)]; exact s3
    · obtain ⟨μ', m', u1, u2, u3, u4, u5, u6, u7⟩ := ih fl (i + 1) m μ11 (by omega) (by omega) (fun j hj => by rw [s2]; exact h3 j hj) hrow h5 (fun u hu => by
        rw [h6 u hu]
        show _ = (hasB W u i || decide (W i = wd u 0))
        rw [decide_eq_false (fun w => e (by rw [w, kd_wd (by omega) (by omega)])), Bool.or_false]) (s4.trans h7) s5
      refine ⟨μ', m', ?_, u2, u3, u4, u5, u6, u7.trans s3⟩
      rw [hstep μ11]
      · exact u1
      · rw [if_pos (k_ne 0 e)]
theorem rd_s {q L : Nat} {W : Nat → Int32} {μ : Mu} (hc : clPb q = true) (hq : q + 1 < 40) (hq2 : 4 < q) (hL : L ≤ 30) (hW : ∀ j, j < L → wOK (W j)) (h3 : ∀ j, j < L → μ 2 j = W j) :
    ∃ μ' m, f_CL_read q (nI L) μ = some μ' ∧ m < 256 ∧ (∀ v, v < 8 → Nat.testBit m v = hasB W v L) ∧ μ' q 1 = nI L ∧ μ' q 2 = nI m ∧ μ' q 3 = nI (cnt (fun v => hasB W v L) 8 + sca (fun j => kd (W j)) L 0) ∧ ∀ j, j < L → μ' (q + 1) j = W j := by
  obtain ⟨μ', m, u1, u2, u3, u4, u5, u6, u7⟩ := rd_l hq hq2 hL hW L fu 0 0 (sI (sI (sI μ q 1 (nI L)) q 2 0) q 3 0) (by omega) (by unfold fu; omega) (fun j hj => by rw [sI_nk (by omega), sI_nk (by omega), sI_nk (by omega)]; exact h3 j hj) (fun j hj => by omega) (by omega) (fun v _ => Nat.zero_testBit v) (by rw [sI_nj (by omega), sI_at]; rfl) sI_at
  refine ⟨sI μ' q 3 (nI (cnt (fun v => hasB W v L) 8 + sca (fun j => kd (W j)) L 0)), m, ?_, u2, u3, ?_, ?_, sI_at, fun j hj => ?_⟩
  · unfold f_CL_read
    rw [if_pos hc, show f_CL_read_17 q (nI L) fu 0 (sI (sI (sI μ q 1 (nI L)) q 2 0) q 3 0) = some μ' from u1, b1_s, u4, u5, mk_cnt m u2, nI_add, cnt_eq (q := fun v => hasB W v L) 8 (fun v hv => u3 v hv)]
    congr 3
    rw [Nat.add_comm]
  · rw [sI_nj (by omega), u7, sI_nj (by omega), sI_nj (by omega), sI_at]
  · rw [sI_nj (by omega)]; exact u4
  · rw [sI_nk (by omega)]; exact u6 j hj
end CLS
