/-! methods that throw: a number tells which -/
section EXA
def exN (c : Nat) : String := match c with
  | 1 => "java/lang/IllegalArgumentException"
  | 2 => "java/lang/IllegalStateException"
  | 3 => "java/lang/ArithmeticException"
  | 4 => "java/lang/UnsupportedOperationException"
  | _ => "java/lang/IndexOutOfBoundsException"
def exR (c : Nat) (r : Int32) : gv_O := match c with
  | 0 => .inl (some (gI r))
  | c + 1 => .inr (.inl (exN (c + 1)))
def exA (c : Nat) (acc : Nat × Nat) : Nat × Nat := match c with
  | 0 => acc
  | _ + 1 => (acc.1 + 1, acc.2 + 6)
theorem exR_ne {c : Nat} {r : Int32} : exR c r ≠ .inr (.inr none) := by
  cases c with
  | zero => intro h; cases h
  | succ c => intro h; cases h
end EXA
