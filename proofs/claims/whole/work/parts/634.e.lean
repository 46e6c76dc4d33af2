/-! bitCount: bytes. -/
theorem f3_s (k z : Nat) : f3 (k + 1) z = 256 * f3 k (z / 256) + (z % 16 + z / 16 % 16) := rfl
theorem nb_s (k z : Nat) : nb (k + 1) z = (z % 16 ≤ 4 ∧ z / 16 % 16 ≤ 4 ∧ nb k (z / 256)) := rfl
theorem nb_z : nb 0 0 := rfl
theorem hb_z (n : Nat) : hb 0 n = 0 := by
  unfold hb
  rfl
theorem hb_1 {H a b : Nat} (ha : a ≤ 4) (hb9 : b ≤ 4) : (256 * H + 16 * b + a) / 256 = H := by omega
theorem hb_2 {H a b : Nat} (ha : a ≤ 4) : (256 * H + 16 * b + a) % 16 = a := by omega
theorem hb_3 {H a b : Nat} (ha : a ≤ 4) (hb9 : b ≤ 4) : (256 * H + 16 * b + a) / 16 % 16 = b := by
  have e : (256 * H + 16 * b + a) / 16 = 16 * H + b := by omega
  rw [e]
  omega
theorem hb_nb : ∀ (k n : Nat), nb k (hb k n)
  | 0, n => by
    rw [hb_z]
    exact nb_z
  | k + 1, n => by
    rw [hb_s, nb_s, hb_1 le4 le4, hb_2 le4, hb_3 le4 le4]
    exact ⟨le4, le4, hb_nb k (n / 256)⟩
theorem hb_r {c0 c1 c2 c3 c4 c5 c6 c7 : Nat} : (c0 + c1 + (c2 + c3)) + (c4 + c5 + (c6 + c7)) = c0 + (c1 + (c2 + (c3 + (c4 + (c5 + (c6 + c7)))))) := by omega
theorem hb_f3 (k n : Nat) : f3 (k + 1) (hb (k + 1) n) = 256 * f3 k (hb k (n / 256)) + pcn 8 n := by
  rw [hb_s, f3_s, hb_1 le4 le4, hb_2 le4, hb_3 le4 le4, pcn8, hb_r]
