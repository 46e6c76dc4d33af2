/-! bitCount: the sum, its identities. -/
theorem bs7 {Z Q1 R2 R4 R6 a0 a1 a2 a3 a4 a5 : Nat} (w1 : Z + Q1 = 65536 * R2 + 256 * a1 + a0) (r2 : R2 = 65536 * R4 + 256 * a3 + a2) (r4 : R4 = 65536 * R6 + 256 * a5 + a4) : Z + Q1 + R2 = 4294967296 * (R4 + R6) + (65536 * (256 * (a3 + a5) + (a2 + a4)) + 256 * (a1 + a3) + (a0 + a2)) := by
  subst r4
  subst r2
  omega
theorem bs8 {X R4 R6 y z b0 b1 b2 c6 Q7 : Nat} (w2 : X = 4294967296 * (R4 + R6) + (65536 * y + 256 * z + b0)) (r4 : R4 = 65536 * R6 + 256 * b1 + b2) (r6 : R6 = 256 * Q7 + c6) : X + (R4 + R6) = 256 * (16777216 * (R4 + R6) + 256 * y + z + 256 * R6 + b1 + Q7) + (b0 + b2 + c6) := by omega
theorem bs9 {a b c d : Nat} (h1 : a ≤ 8) (h2 : b ≤ 8) (h3 : c ≤ 8) (h4 : d ≤ 8) : a + b + (c + d) ≤ 32 := by omega
theorem bs11 {Q6 Q7 c6 : Nat} (e6 : Q6 = 256 * Q7 + c6) : Q6 + Q7 = 256 * Q7 + (c6 + Q7) := by omega
theorem bs12 {c0 c1 c2 c3 c4 c5 c6 c7 : Nat} (h0 : c0 ≤ 8) (h1 : c1 ≤ 8) (h2 : c2 ≤ 8) (h3 : c3 ≤ 8) (h4 : c4 ≤ 8) (h5 : c5 ≤ 8) (h6 : c6 ≤ 8) (h7 : c7 ≤ 8) : c0 + c1 + (c2 + c3) + (c4 + c5) + (c6 + c7) ≤ 64 := by omega
theorem bs13 {c0 c1 c2 c3 c4 c5 c6 c7 : Nat} : c0 + c1 + (c2 + c3) + (c4 + c5) + (c6 + c7) = c0 + (c1 + (c2 + (c3 + (c4 + (c5 + (c6 + c7)))))) := by omega
