/-! bitCount: the sum of the bytes. -/
/-- the sum of the bytes of Z -/
theorem bc_sum {Z Q1 Q2 Q3 Q4 Q5 Q6 Q7 c0 c1 c2 c3 c4 c5 c6 : Nat} (h0 : c0 ≤ 8) (h1 : c1 ≤ 8) (h2 : c2 ≤ 8) (h3 : c3 ≤ 8) (h4 : c4 ≤ 8) (h5 : c5 ≤ 8) (h6 : c6 ≤ 8) (h7 : Q7 ≤ 8) (e0 : Z = 256 * Q1 + c0) (e1 : Q1 = 256 * Q2 + c1) (e2 : Q2 = 256 * Q3 + c2) (e3 : Q3 = 256 * Q4 + c3) (e4 : Q4 = 256 * Q5 + c4) (e5 : Q5 = 256 * Q6 + c5) (e6 : Q6 = 256 * Q7 + c6) : ((Z + Z / 2 ^ 8 + (Z + Z / 2 ^ 8) / 2 ^ 16) + (Z + Z / 2 ^ 8 + (Z + Z / 2 ^ 8) / 2 ^ 16) / 2 ^ 32) % 128 = c0 + (c1 + (c2 + (c3 + (c4 + (c5 + (c6 + Q7)))))) := by
  have d1 : Z / 2 ^ 8 = Q1 := by
    rw [e0]
    exact bs1 h0
  rw [d1]
  have w1 := bs6 e0 e1 e2
  have d2 : (Z + Q1) / 2 ^ 16 = Q2 + Q3 := by
    rw [w1]
    exact bs2 (Nat.add_le_add h0 h1) (Nat.add_le_add h1 h2)
  rw [d2]
  have r2 : Q2 + Q3 = 65536 * (Q4 + Q5) + 256 * (c3 + c4) + (c2 + c3) := bs6 e2 e3 e4
  have r4 : Q4 + Q5 = 65536 * (Q6 + Q7) + 256 * (c5 + c6) + (c4 + c5) := bs6 e4 e5 e6
  have w2 := bs7 w1 r2 r4
  have d3 : (Z + Q1 + (Q2 + Q3)) / 2 ^ 32 = Q4 + Q5 + (Q6 + Q7) := by
    rw [w2]
    exact bs3 (bs5 (bs9 h0 h1 h2 h3) (bs9 h1 h2 h3 h4) (bs9 h2 h3 h4 h5) (bs9 h3 h4 h5 h6))
  rw [d3]
  have r6 := bs11 e6
  have w3 := bs8 w2 r4 r6
  rw [w3, bs4 (bs12 h0 h1 h2 h3 h4 h5 h6 h7)]
  exact bs13
