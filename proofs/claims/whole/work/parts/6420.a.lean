/-! bitCount: the sum of the bytes. -/
theorem bs1 {q c : Nat} (h : c ≤ 8) : (256 * q + c) / 2 ^ 8 = q := by omega
theorem bs2 {q a b : Nat} (ha : a ≤ 16) (hb : b ≤ 16) : (65536 * q + 256 * b + a) / 2 ^ 16 = q := by omega
theorem bs3 {q y : Nat} (h : y < 4294967296) : (4294967296 * q + y) / 2 ^ 32 = q := by omega
theorem bs4 {q y : Nat} (h : y ≤ 64) : (256 * q + y) % 128 = y := by omega
theorem bs5 {a b c d : Nat} (ha : a ≤ 32) (hb : b ≤ 32) (hc : c ≤ 32) (hd : d ≤ 32) : 65536 * (256 * d + c) + 256 * b + a < 4294967296 := by omega
theorem bs6 {Z Q1 Q2 Q3 c0 c1 c2 : Nat} (e0 : Z = 256 * Q1 + c0) (e1 : Q1 = 256 * Q2 + c1) (e2 : Q2 = 256 * Q3 + c2) : Z + Q1 = 65536 * (Q2 + Q3) + 256 * (c1 + c2) + (c0 + c1) := by omega
