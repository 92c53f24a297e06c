/-! one pair of terms: the ways of class and reference -/
section LKA
variable {C U T KK V NM A : Nat → Int32} {N S : Nat} {φ K τ : Nat → Nat}
theorem lk_vv {x y : Int32} {μ : Mu} (h1 : kd x = 0) (h2 : kd y = 0) : f_UN_lookAt x y μ = b1 (f_UN_bindLater x y μ) fun μ54 => some (1, μ54) := by
  unfold f_UN_lookAt
  rw [if_neg (not_not_intro (k_eq 0 h1)), if_neg (not_not_intro (k_eq 0 h2)), b1_s, b1_s, if_neg (by decide), if_neg (by decide)]
theorem lk_vn {x y : Int32} {μ : Mu} (h1 : kd x = 0) (h2 : kd y ≠ 0) : f_UN_lookAt x y μ = b2 (f_UN_bindUnlessInside x y μ) fun v μ' => if (v = 0 ∨ v = 1) then some (v, μ') else none := by
  unfold f_UN_lookAt
  rw [if_neg (not_not_intro (k_eq 0 h1)), if_pos (k_ne 0 h2), b1_s, b1_s, if_neg (by decide), if_pos rfl, if_neg (by decide)]
theorem lk_nv {x y : Int32} {μ : Mu} (h1 : kd x ≠ 0) (h2 : kd y = 0) : f_UN_lookAt x y μ = b2 (f_UN_bindUnlessInside y x μ) fun v μ' => if (v = 0 ∨ v = 1) then some (v, μ') else none := by
  unfold f_UN_lookAt
  rw [if_pos (k_ne 0 h1), if_neg (not_not_intro (k_eq 0 h2)), b1_s, b1_s, if_pos rfl, if_pos rfl, if_neg (by decide)]
theorem lk_ss {x y : Int32} {μ : Mu} (h1 : kd x = 7) (h2 : kd y = 7) : f_UN_lookAt x y μ = b2 (f_UN_openArguments x y μ) fun v μ' => if (v = 0 ∨ v = 1) then some (v, μ') else none := by
  unfold f_UN_lookAt
  rw [if_pos (k_ne 0 (by omega)), if_pos (k_ne 0 (by omega)), b1_s, b1_s, if_pos rfl, if_pos rfl, if_pos rfl, if_neg (not_not_intro (k_eq 7 h1)), if_neg (not_not_intro (k_eq 7 h2))]
theorem lk_nn {x y : Int32} {μ : Mu} (h1 : kd x ≠ 0) (h2 : kd y ≠ 0) (h3 : ¬ (kd x = 7 ∧ kd y = 7)) : f_UN_lookAt x y μ = some (if x = y then 1 else 0, μ) := by
  unfold f_UN_lookAt
  rw [if_pos (k_ne 0 h1), if_pos (k_ne 0 h2), b1_s, b1_s, if_pos rfl, if_pos rfl, if_pos rfl]
  by_cases e : kd x = 7
  · have e2 : kd y ≠ 7 := fun q => h3 ⟨e, q⟩
    rw [if_neg (not_not_intro (k_eq 7 e)), if_pos (k_ne 7 e2)]
    by_cases q : x = y
    · rw [if_neg (not_not_intro q), if_pos q]
    · rw [if_pos q, if_neg q]
  · rw [if_pos (k_ne 7 e)]
    by_cases q : x = y
    · rw [if_neg (not_not_intro q), if_pos q]
    · rw [if_pos q, if_neg q]
def ocB (x k v : Int32) (ν : Mu) : Option Mu := b2 (f_MO_occurs x k v ν) fun v16 μ17 => b1 (if v16 = 0 then b1 (f_MO_bind x k v μ17) fun μ24 => some μ24 else some (sI μ17 70 49 1)) fun μ19 => some μ19
theorem mt_vv {a b : Int32} {ν : Mu} : f_MO_meet 0 a 0 b ν = if a = b then some ν else b1 (rd (ν 75) 240 a) fun v166 => b1 (rd (ν 75) 240 b) fun v168 => b1 (if v166 ≤ v168 then some (0 : Int32) else some (1 : Int32)) fun v170 => b1 (if v170 = 0 then some b else some a) fun v174 => b1 (if v170 = 0 then some a else some b) fun v178 => b1 (f_MO_bind v174 0 v178 ν) fun μ183 => some μ183 := by
  unfold f_MO_meet
  rw [if_neg (not_not_intro rfl), if_neg (not_not_intro rfl)]
theorem mt_vn {a k b : Int32} {ν : Mu} (h : k ≠ 0) : f_MO_meet 0 a k b ν = ocB a k b ν := by
  unfold f_MO_meet ocB
  rw [if_neg (not_not_intro rfl), if_pos h, if_pos rfl, if_neg (not_not_intro rfl), b1_s, if_neg (not_not_intro rfl), b1_s, if_neg (not_not_intro rfl), b1_s]
theorem mt_nv {k a b : Int32} {ν : Mu} (h : k ≠ 0) : f_MO_meet k a 0 b ν = ocB b k a ν := by
  unfold f_MO_meet ocB
  rw [if_pos h, if_neg h, if_neg (not_not_intro rfl), if_pos h, b1_s, if_pos h, b1_s, if_pos h, b1_s]
theorem mt_ss {a b : Int32} {ν : Mu} : f_MO_meet 3 a 3 b ν = b1 (rd (ν 78) 240 a) fun v35 => b1 (rd (ν 78) 240 b) fun v37 => if v35 = v37 then b1 (f_MO_pushPairs a b ν) fun μ42 => some μ42 else some (sI ν 70 49 1) := by
  unfold f_MO_meet
  rw [if_pos (show ¬ (3 : Int32) = 0 by decide), if_neg (show ¬ (3 : Int32) = 0 by decide), if_pos (show ¬ (3 : Int32) = 0 by decide), if_neg (not_not_intro rfl), if_pos rfl, if_neg (not_not_intro rfl)]
  rfl
theorem mt_nn {k a l b : Int32} {ν : Mu} (h1 : k ≠ 0) (h2 : l ≠ 0) (h3 : ¬ (k = 3 ∧ l = 3)) : f_MO_meet k a l b ν = some (if k = l ∧ a = b then ν else sI ν 70 49 1) := by
  unfold f_MO_meet
  rw [if_pos h1, if_neg h1, if_pos h2]
  by_cases e : k = l
  · subst e
    have e3 : ¬ k = 3 := fun q => h3 ⟨q, q⟩
    rw [if_neg (not_not_intro rfl), if_neg e3]
    by_cases q : a = b
    · rw [if_neg (not_not_intro q), if_pos e3, if_pos e3, if_pos ⟨rfl, q⟩]
    · rw [if_pos q, if_neg (fun w => q w.2)]
  · rw [if_pos e, if_neg (fun w => e w.1)]
end LKA
