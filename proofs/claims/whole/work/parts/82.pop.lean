/-- sums of bits, two by two -/
theorem and_div4 (a b : Nat) : (a &&& b) / 4 = (a / 4) &&& (b / 4) := by
  apply Nat.eq_of_testBit_eq
  intro i
  rw [show (4 : Nat) = 2 ^ 2 from rfl, Nat.testBit_div_two_pow, Nat.testBit_and, Nat.testBit_and, Nat.testBit_div_two_pow, Nat.testBit_div_two_pow]
