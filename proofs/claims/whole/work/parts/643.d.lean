/-! bitCount: the bytes are counts. -/
theorem f3_z (z : Nat) : f3 0 z = 0 := rfl
theorem pcn_b (k m : Nat) : pcn (8 + k) m = pcn 8 m + pcn k (m / 256) := pcn_add 8 k m
theorem bc_f3 (n : Nat) : ((f3 8 (hb 8 n) + f3 8 (hb 8 n) / 2 ^ 8 + (f3 8 (hb 8 n) + f3 8 (hb 8 n) / 2 ^ 8) / 2 ^ 16) + (f3 8 (hb 8 n) + f3 8 (hb 8 n) / 2 ^ 8 + (f3 8 (hb 8 n) + f3 8 (hb 8 n) / 2 ^ 8) / 2 ^ 16) / 2 ^ 32) % 128 = pcn 64 n := by
  have e7 : f3 (0 + 1) (hb (0 + 1) (n / 256 / 256 / 256 / 256 / 256 / 256 / 256)) = pcn 8 (n / 256 / 256 / 256 / 256 / 256 / 256 / 256) := by
    rw [hb_f3 0, f3_z, Nat.mul_zero, Nat.zero_add]
  have h := bc_sum (pcn_le 8 n) (pcn_le 8 (n / 256)) (pcn_le 8 (n / 256 / 256)) (pcn_le 8 (n / 256 / 256 / 256)) (pcn_le 8 (n / 256 / 256 / 256 / 256)) (pcn_le 8 (n / 256 / 256 / 256 / 256 / 256)) (pcn_le 8 (n / 256 / 256 / 256 / 256 / 256 / 256)) (by rw [e7]; exact pcn_le 8 _) (hb_f3 7 n) (hb_f3 6 (n / 256)) (hb_f3 5 (n / 256 / 256)) (hb_f3 4 (n / 256 / 256 / 256)) (hb_f3 3 (n / 256 / 256 / 256 / 256)) (hb_f3 2 (n / 256 / 256 / 256 / 256 / 256)) (hb_f3 1 (n / 256 / 256 / 256 / 256 / 256 / 256))
  rw [e7] at h
  have e : pcn (8 + (8 + (8 + (8 + (8 + (8 + (8 + 8))))))) n = pcn 8 n + (pcn 8 (n / 256) + (pcn 8 (n / 256 / 256) + (pcn 8 (n / 256 / 256 / 256) + (pcn 8 (n / 256 / 256 / 256 / 256) + (pcn 8 (n / 256 / 256 / 256 / 256 / 256) + (pcn 8 (n / 256 / 256 / 256 / 256 / 256 / 256) + pcn 8 (n / 256 / 256 / 256 / 256 / 256 / 256 / 256))))))) := by
    rw [pcn_b, pcn_b, pcn_b, pcn_b, pcn_b, pcn_b, pcn_b]
  rw [← e] at h
  exact h
theorem f3_a {F P a b : Nat} (h : 255 * F + 8 ≤ 8 * P) (h1 : a ≤ 4) (h2 : b ≤ 4) : 255 * (256 * F + (a + b)) + 8 ≤ 8 * (P * 256) := by omega
theorem f3_hl : ∀ (k z : Nat), nb k z → 255 * f3 k z + 8 ≤ 8 * 256 ^ k
  | 0, z, h => by
    rw [f3_z]
    decide
  | k + 1, z, h => by
    rw [nb_s] at h
    obtain ⟨h1, h2, h3⟩ := h
    rw [f3_s, Nat.pow_succ]
    exact f3_a (f3_hl k (z / 256) h3) h1 h2
