/-! numbers: rounding alike; a term's arguments; the reference's pile -/
section CAA
theorem sI_same {μ : Mu} {k j : Nat} {v : Int32} (h : μ k j = v) : sI μ k j v = μ := by
  funext a b
  by_cases e1 : a = k
  · subst e1
    by_cases e2 : b = j
    · subst e2; rw [sI_at, h]
    · rw [sI_nj e2]
  · rw [sI_nk e1]
theorem sI_sI {μ : Mu} {k j : Nat} {v w : Int32} : sI (sI μ k j v) k j w = sI μ k j w := by
  funext a b
  by_cases e1 : a = k
  · subst e1
    by_cases e2 : b = j
    · subst e2; rw [sI_at, sI_at]
    · rw [sI_nj e2, sI_nj e2, sI_nj e2]
  · rw [sI_nk e1, sI_nk e1, sI_nk e1]
theorem i_m1 (x : Int32) : x + (-1) = x - 1 := by rw [Int32.sub_eq_add_neg]
theorem nI_m1 {p : Nat} (h : 0 < p) : nI p - 1 = nI (p - 1) := by
  cases p with
  | zero => omega
  | succ p => exact nI_pred p
/-- rounding into 29 bits -/
def rnd (x : Int32) : Int32 := (x <<< ((3 : Int32) &&& 31)) >>> ((3 : Int32) &&& 31)
theorem rnd_b (x : Int32) (i : Nat) (h : i < 32) : (rnd x).toBitVec.getLsbD i = x.toBitVec.getLsbD (if i < 29 then i else 28) := by
  show ((x.toBitVec <<< 3).sshiftRight 3).getLsbD i = _
  rw [BitVec.getLsbD_sshiftRight]
  by_cases e : i < 29
  · rw [if_pos e]
    simp [show ¬ 32 ≤ i by omega, show 3 + i < 32 by omega, show ¬ 3 + i < 3 by omega]
    rw [BitVec.getLsbD_eq_getElem]
  · rw [if_neg e]
    simp [show ¬ 32 ≤ i by omega, show ¬ 3 + i < 32 by omega, BitVec.msb_eq_getLsbD_last, BitVec.getLsbD_shiftLeft]
theorem i32_ext {x y : Int32} (h : ∀ i, i < 32 → x.toBitVec.getLsbD i = y.toBitVec.getLsbD i) : x = y := by
  apply Int32.toBitVec_inj.mp
  apply BitVec.eq_of_getLsbD_eq
  intro i hi
  exact h i hi
theorem rnd_rnd (x : Int32) : rnd (rnd x) = rnd x := by
  apply i32_ext
  intro i hi
  rw [rnd_b _ _ hi]
  by_cases e : i < 29
  · rw [if_pos e]
  · rw [if_neg e, rnd_b _ _ hi, rnd_b _ _ (by omega), if_pos (by omega), if_neg e]
theorem shr_b (x : Int32) (i : Nat) (h : i < 32) : (x >>> ((3 : Int32) &&& 31)).toBitVec.getLsbD i = x.toBitVec.getLsbD (if i < 29 then i + 3 else 31) := by
  show (x.toBitVec.sshiftRight 3).getLsbD i = _
  rw [BitVec.getLsbD_sshiftRight]
  by_cases e : i < 29
  · rw [if_pos e]
    rw [if_pos (show 3 + i < 32 by omega), show 3 + i = i + 3 by omega]
    simp [show ¬ 32 ≤ i by omega]
  · rw [if_neg e]
    simp [show ¬ 32 ≤ i by omega, show ¬ 3 + i < 32 by omega, BitVec.msb_eq_getLsbD_last]
theorem rnd_shr (t : Int32) : rnd (t >>> ((3 : Int32) &&& 31)) = t >>> ((3 : Int32) &&& 31) := by
  apply i32_ext
  intro i hi
  rw [rnd_b _ _ hi, shr_b _ _ hi]
  by_cases e : i < 29
  · rw [if_pos e, if_pos e, shr_b _ _ (by omega), if_pos e]
  · rw [if_neg e, if_neg e, shr_b _ _ (by omega), if_pos (by omega)]
/-- a number's word -/
theorem num_v {y : Int32} (h : rnd y = y) : ((y <<< ((3 : Int32) &&& 31)) ||| 1) >>> ((3 : Int32) &&& 31) = y := by
  rw [← h]
  apply i32_ext
  intro i hi
  rw [shr_b _ _ hi, rnd_b _ _ hi]
  show (((rnd y).toBitVec <<< 3) ||| 1#32).getLsbD (if i < 29 then i + 3 else 31) = _
  rw [BitVec.getLsbD_or, BitVec.getLsbD_shiftLeft]
  by_cases e : i < 29
  · rw [if_pos e, if_pos e, show i + 3 - 3 = i by omega, rnd_b _ _ hi, if_pos e]
    simp [show i + 3 < 32 by omega, show ¬ i + 3 < 3 by omega]
  · rw [if_neg e, if_neg e, show 31 - 3 = 28 by omega, rnd_b _ _ (by omega), if_pos (by omega)]
    simp
theorem num_k (y : Int32) : kd ((y <<< ((3 : Int32) &&& 31)) ||| 1) = 1 := by
  apply kd_of _ (by decide)
  apply i32_ext
  intro i hi
  show (((y.toBitVec <<< 3) ||| 1#32) &&& 7#32).getLsbD i = (1#32).getLsbD i
  rw [BitVec.getLsbD_and, BitVec.getLsbD_or, BitVec.getLsbD_shiftLeft]
  rcases (show i = 0 ∨ i = 1 ∨ i = 2 ∨ 3 ≤ i by omega) with e | e | e | e
  · subst e; simp
  · subst e; simp
  · subst e; simp
  · have h7 : (7#32).getLsbD i = false := by
      rw [BitVec.getLsbD_ofNat]
      simp
      intro _
      apply Nat.testBit_lt_two_pow
      exact Nat.lt_of_lt_of_le (show 7 < 2 ^ 3 by decide) (Nat.pow_le_pow_right (by decide) e)
    have h1 : (1#32).getLsbD i = false := by
      rw [BitVec.getLsbD_ofNat]
      have : Nat.testBit 1 i = false := by
        apply Nat.testBit_lt_two_pow
        exact Nat.lt_of_lt_of_le (show 1 < 2 ^ 3 by decide) (Nat.pow_le_pow_right (by decide) e)
      rw [this, Bool.and_false]
    rw [h7, h1, Bool.and_false]
theorem rnd_long (x : Int64) : Int64.toInt32 ((x <<< (Int32.toInt64 35 &&& 63)) >>> (Int32.toInt64 35 &&& 63)) = rnd (Int64.toInt32 x) := by
  apply i32_ext
  intro i hi
  rw [rnd_b _ _ hi]
  show (((x.toBitVec <<< 35).sshiftRight 35).signExtend 32).getLsbD i = (x.toBitVec.signExtend 32).getLsbD _
  rw [BitVec.getLsbD_signExtend, BitVec.getLsbD_signExtend, BitVec.getLsbD_sshiftRight]
  by_cases e : i < 29
  · rw [if_pos e]
    simp [hi, show i < 64 by omega, show ¬ 64 ≤ i by omega, show 35 + i < 64 by omega]
  · rw [if_neg e]
    simp [hi, show i < 64 by omega, show ¬ 64 ≤ i by omega, show ¬ 35 + i < 64 by omega, BitVec.msb_eq_getLsbD_last]
theorem l_i (a : Int32) : Int64.toInt32 a.toInt64 = a := by simp
theorem l_add (a b : Int32) : Int64.toInt32 (a.toInt64 + b.toInt64) = a + b := by simp
theorem l_sub (a b : Int32) : Int64.toInt32 (a.toInt64 - b.toInt64) = a - b := by simp
theorem l_mul (a b : Int32) : Int64.toInt32 (a.toInt64 * b.toInt64) = a * b := by simp
theorem l_div (a b : Int32) : Int64.toInt32 (a.toInt64 / b.toInt64) = a / b := by
  apply Int32.toInt_inj.mp
  have h1 := Int32.toInt_div a b
  rw [h1, Int64.toInt_toInt32, Int64.toInt_div]
  rw [Int32.toInt_toInt64, Int32.toInt_toInt64]
  exact Int.bmod_bmod_of_dvd (by decide)
theorem l_nn (x : Int32) : ¬ lg_cmp x.toInt64 4294967296 = 0 := by
  unfold lg_cmp
  have h : ¬ x.toInt64 = 4294967296 := by
    intro q
    have q2 := congrArg Int64.toInt q
    rw [Int32.toInt_toInt64] at q2
    have h1 := Int32.toInt_lt x
    have h2 : (4294967296 : Int64).toInt = 4294967296 := by decide
    omega
  rw [if_neg h]
  by_cases e : x.toInt64 > 4294967296
  · rw [if_pos e]; decide
  · rw [if_neg e]; decide
theorem l_n0 : lg_cmp 4294967296 4294967296 = 0 := by decide
theorem l_0 {x : Int32} : x.toInt64 = 0 ↔ x = 0 := by
  constructor
  · intro h
    have := congrArg Int64.toInt32 h
    rw [l_i] at this
    exact this
  · intro h; rw [h]; rfl
end CAA
