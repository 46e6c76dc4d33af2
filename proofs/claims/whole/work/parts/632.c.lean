/-! bitCount: the bits of a byte. -/
theorem pcn_s (k n : Nat) : pcn (k + 1) n = n % 2 + pcn k (n / 2) := rfl
theorem pcn_z (n : Nat) : pcn 0 n = 0 := rfl
theorem pcn8 (n : Nat) : pcn 8 n = n % 2 + (n / 2 % 2 + (n / 4 % 2 + (n / 8 % 2 + (n / 16 % 2 + (n / 32 % 2 + (n / 64 % 2 + n / 128 % 2)))))) := by
  have h : pcn (0 + 1 + 1 + 1 + 1 + 1 + 1 + 1 + 1) n = n % 2 + (n / 2 % 2 + (n / (2 * 2) % 2 + (n / (2 * 2 * 2) % 2 + (n / (2 * 2 * 2 * 2) % 2 + (n / (2 * 2 * 2 * 2 * 2) % 2 + (n / (2 * 2 * 2 * 2 * 2 * 2) % 2 + (n / (2 * 2 * 2 * 2 * 2 * 2 * 2) % 2 + 0))))))) := by
    simp only [pcn_s, pcn_z, dv2]
  exact h
theorem le2 {a b : Nat} : a % 2 + b % 2 ≤ 2 := by omega
theorem le4 {a b c d : Nat} : (a % 2 + b % 2) + (c % 2 + d % 2) ≤ 4 := by omega
