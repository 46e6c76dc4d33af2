/-! bitCount, the third stage and the sum: bytes whose halves are at most 4. -/
def nb : Nat → Nat → Prop
  | 0, z => z = 0
  | k + 1, z => z % 16 ≤ 4 ∧ z / 16 % 16 ≤ 4 ∧ nb k (z / 256)
theorem nb_16 {k z : Nat} (h : nb k z) : z % 16 ≤ 4 := by
  cases k with
  | zero =>
    unfold nb at h
    omega
  | succ k => exact h.1
theorem dv2 (n a b : Nat) : n / a / b = n / (a * b) := Nat.div_div_eq_div_mul n a b
