/-! numbers and words: what Level 2 stands on -/
section LZA
theorem b1_s {α γ : Type} {a : α} {f : α → Option γ} : b1 (some a) f = f a := rfl
theorem b2_s {α β γ : Type} {a : α} {b : β} {f : α → β → Option γ} : b2 (some (a, b)) f = f a b := rfl
theorem b3_s {α β δ γ : Type} {a : α} {b : β} {c : δ} {f : α → β → δ → Option γ} : b3 (some (a, b, c)) f = f a b c := rfl
theorem b5_s {α β δ ε ζ γ : Type} {a : α} {b : β} {c : δ} {e : ε} {z : ζ} {f : α → β → δ → ε → ζ → Option γ} : b5 (some (a, b, c, e, z)) f = f a b c e z := rfl
theorem rd_n {f : Nat → Int32} {n i : Nat} (h : i < n) (hn : n < 2 ^ 31) : rd f n (nI i) = some (f i) := by
  unfold rd
  rw [if_neg (nI_in h hn), nI_clamp (by omega)]
theorem rd_x {f : Nat → Int32} {n i : Nat} {x : Int32} (e : x = nI i) (h : i < n) (hn : n < 2 ^ 31) : rd f n x = some (f i) := by rw [e]; exact rd_n h hn
theorem wr_n {μ : Mu} {a n i : Nat} {x : Int32} (h : i < n) (hn : n < 2 ^ 31) : wr μ a n (nI i) x = some (sI μ a i x) := by
  unfold wr
  rw [if_neg (nI_in h hn), nI_clamp (by omega)]
theorem wr_x {μ : Mu} {a n i : Nat} {y x : Int32} (e : y = nI i) (h : i < n) (hn : n < 2 ^ 31) : wr μ a n y x = some (sI μ a i x) := by rw [e]; exact wr_n h hn
theorem wz_n {μ : Mu} {a n i : Nat} {x : Int32} (h : i < n) (hn : n < 2 ^ 31) (hx : x = 0 ∨ x = 1) : wz μ a n (nI i) x = some (sI μ a i x) := by
  unfold wz
  rw [if_neg (nI_in h hn), if_pos hx, nI_clamp (by omega)]
theorem wz_x {μ : Mu} {a n i : Nat} {y x : Int32} (e : y = nI i) (h : i < n) (hn : n < 2 ^ 31) (hx : x = 0 ∨ x = 1) : wz μ a n y x = some (sI μ a i x) := by rw [e]; exact wz_n h hn hx
/-- a word by its value and kind -/
abbrev wd (i k : Nat) : Int32 := nI (8 * i + k)
theorem wd_k {i k : Nat} (hi : i < 2 ^ 28) (hk : k < 8) : wd i k &&& 7 = nI k := by
  rw [pk_andN (by omega) 3 (by decide)]
  congr 1
  omega
theorem wd_v {i k : Nat} (hi : i < 2 ^ 28) (hk : k < 8) : wd i k >>> ((3 : Int32) &&& 31) = nI i := by
  rw [pk_shrN (by omega) _ 3 (by decide)]
  congr 1
  omega
theorem wd_shl {i : Nat} (hi : i < 2 ^ 28) : nI i <<< ((3 : Int32) &&& 31) = wd i 0 := by
  rw [pk_shlN _ 3 (by decide) (by omega)]
  congr 1
  omega
theorem nI_or7 {i : Nat} (hi : i < 2 ^ 28) : wd i 0 ||| 7 = wd i 7 := by
  apply Int32.toBitVec_inj.mp
  apply BitVec.eq_of_toNat_eq
  show (BitVec.ofNat 32 (8 * i + 0) ||| 7#32).toNat = (BitVec.ofNat 32 (8 * i + 7)).toNat
  rw [BitVec.toNat_or, BitVec.toNat_ofNat, BitVec.toNat_ofNat, BitVec.toNat_ofNat, Nat.mod_eq_of_lt (by omega), Nat.mod_eq_of_lt (by omega), Nat.mod_eq_of_lt (by omega)]
  have e : 8 * i + 0 = i <<< 3 := by rw [Nat.shiftLeft_eq]; omega
  show 8 * i + 0 ||| 7 = 8 * i + 7
  rw [e, ← Nat.shiftLeft_add_eq_or_of_lt (show 7 < 2 ^ 3 by decide) i, Nat.shiftLeft_eq]
  omega
theorem wd_eq {i k a b : Nat} (hi : i < 2 ^ 28 - 1) (hk : k < 8) (ha : a < 2 ^ 28 - 1) (hb : b < 8) : wd i k = wd a b ↔ i = a ∧ k = b := by
  rw [nI_eq (by omega) (by omega)]
  omega
/-- the number of arguments that a name's word tells, by its kind -/
def arK (k : Nat) : Nat := if 2 ≤ k ∧ k ≤ 5 then k - 2 else 0
theorem arK_le (k : Nat) : arK k ≤ 3 := by unfold arK; split <;> omega
theorem ar_c {x : Int32} {k : Nat} {μ : Mu} (h : x &&& 7 = nI k) (hk : k < 8) : f_GE_argumentsOf x μ = some (nI (arK k)) := by
  unfold f_GE_argumentsOf
  rw [h]
  rcases (show k = 0 ∨ k = 1 ∨ k = 2 ∨ k = 3 ∨ k = 4 ∨ k = 5 ∨ k = 6 ∨ k = 7 by omega) with e | e | e | e | e | e | e | e <;> subst e <;> decide
theorem ar_m {x : Int32} {k : Nat} {μ : Mu} (h : x &&& 7 = nI k) (hk : k < 8) : f_MO_arity x μ = some (nI (arK k)) := by
  unfold f_MO_arity
  rw [h]
  rcases (show k = 0 ∨ k = 1 ∨ k = 2 ∨ k = 3 ∨ k = 4 ∨ k = 5 ∨ k = 6 ∨ k = 7 by omega) with e | e | e | e | e | e | e | e <;> subst e <;> decide
/-- the kind of a word -/
def kd (x : Int32) : Nat := x.toBitVec.toNat % 8
theorem kd_lt (x : Int32) : kd x < 8 := Nat.mod_lt _ (by decide)
theorem kd_e (x : Int32) : x &&& 7 = nI (kd x) := pk_and x 3 (by decide)
theorem kd_of {x : Int32} {k : Nat} (h : x &&& 7 = nI k) (hk : k < 8) : kd x = k := by
  have h2 := (kd_e x).symm.trans h
  exact (nI_eq (by have := kd_lt x; omega) (by omega)).mp h2
theorem kd_wd {i k : Nat} (hi : i < 2 ^ 28) (hk : k < 8) : kd (wd i k) = k := kd_of (wd_k hi hk) hk
end LZA
