/-! bitCount: the third stage. -/
theorem st3_a {q a b c : Nat} (h1 : a ≤ 4) (h2 : b ≤ 4) (h3 : c ≤ 4) (hc : q % 16 = c) : 2 ^ 8 * (q + q / 16) + (16 * (b + c) + (a + b)) = (256 * q + 16 * b + a) + (256 * q + 16 * b + a) / 16 := by omega
theorem st3 : ∀ (k z : Nat), nb k z → (z + z / 16) &&& m3 k = f3 k z
  | 0, z, h => by
    unfold nb at h
    subst h
    rfl
  | k + 1, z, h => by
    obtain ⟨h1, h2, h3⟩ := h
    have e1 := st3 k (z / 256) h3
    have h4 := nb_16 h3
    have ez : z = 256 * (z / 256) + 16 * (z / 16 % 16) + z % 16 := by
      have e9 : z / 256 = z / 16 / 16 := (dv2 z 16 16).symm
      rw [e9]
      have e8 := Nat.mod_add_div z 16
      have e7 := Nat.mod_add_div (z / 16) 16
      generalize z / 16 / 16 = q at *
      generalize z / 16 % 16 = b at *
      generalize z % 16 = a at *
      generalize z / 16 = y at *
      omega
    have e2 := st3_a (q := z / 256) (a := z % 16) (b := z / 16 % 16) (c := z / 256 % 16) h1 h2 h4 rfl
    rw [← ez] at e2
    have hlt : 16 * (z / 16 % 16 + z / 256 % 16) + (z % 16 + z / 16 % 16) < 2 ^ 8 := by
      generalize z / 16 % 16 = b at *
      generalize z / 256 % 16 = c at *
      generalize z % 16 = a at *
      omega
    have hm : (16 * (z / 16 % 16 + z / 256 % 16) + (z % 16 + z / 16 % 16)) % 16 = z % 16 + z / 16 % 16 := by
      generalize z / 16 % 16 = b at *
      generalize z / 256 % 16 = c at *
      generalize z % 16 = a at *
      omega
    have h0 := and_cut 8 (a := z / 256 + z / 256 / 16) (b := m3 k) (r := 16 * (z / 16 % 16 + z / 256 % 16) + (z % 16 + z / 16 % 16)) (t := 15) hlt (by decide)
    rw [e2, show 2 ^ 8 * m3 k + 15 = m3 (k + 1) from rfl, and_15 _ hlt, e1, hm] at h0
    exact h0
