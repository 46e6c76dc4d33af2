/-! bitCount: halves of bytes. -/
theorem f1_s (k n : Nat) : f1 (k + 1) n = 4 * f1 k (n / 4) + (n % 2 + n / 2 % 2) := rfl
theorem f2_s (k n : Nat) : f2 (k + 1) n = 16 * f2 k (n / 16) + (n % 4 + n / 4 % 4) := rfl
def hb (k n : Nat) : Nat := f2 (2 * k) (f1 (4 * k) n)
theorem hb_q {k F p0 p1 p2 p3 : Nat} (b0 : p0 ≤ 2) (b1 : p1 ≤ 2) (b2 : p2 ≤ 2) (b3 : p3 ≤ 2) : f2 (2 * k + 1 + 1) (256 * F + 64 * p3 + 16 * p2 + 4 * p1 + p0) = 256 * f2 (2 * k) F + 16 * (p2 + p3) + (p0 + p1) := by
  have e1 : (256 * F + 64 * p3 + 16 * p2 + 4 * p1 + p0) / 16 = 16 * F + 4 * p3 + p2 := by omega
  have e2 : (16 * F + 4 * p3 + p2) / 16 = F := by omega
  have e3 : (16 * F + 4 * p3 + p2) % 4 = p2 := by omega
  have e4 : (16 * F + 4 * p3 + p2) / 4 % 4 = p3 := by omega
  have e5 : (256 * F + 64 * p3 + 16 * p2 + 4 * p1 + p0) % 4 = p0 := by omega
  have e6 : (256 * F + 64 * p3 + 16 * p2 + 4 * p1 + p0) / 4 % 4 = p1 := by omega
  rw [f2_s, f2_s, e1, e2, e3, e4, e5, e6]
  omega
theorem hb_s (k n : Nat) : hb (k + 1) n = 256 * hb k (n / 256) + 16 * ((n / 16 % 2 + n / 32 % 2) + (n / 64 % 2 + n / 128 % 2)) + ((n % 2 + n / 2 % 2) + (n / 4 % 2 + n / 8 % 2)) := by
  have e : f1 (4 * (k + 1)) n = 256 * f1 (4 * k) (n / 256) + 64 * (n / 64 % 2 + n / 128 % 2) + 16 * (n / 16 % 2 + n / 32 % 2) + 4 * (n / 4 % 2 + n / 8 % 2) + (n % 2 + n / 2 % 2) := by
    rw [show 4 * (k + 1) = 4 * k + 1 + 1 + 1 + 1 by omega]
    have h : f1 (4 * k + 1 + 1 + 1 + 1) n = 4 * (4 * (4 * (4 * f1 (4 * k) (n / (4 * 4 * 4 * 4)) + (n / (4 * 4 * 4) % 2 + n / (4 * 4 * 4 * 2) % 2)) + (n / (4 * 4) % 2 + n / (4 * 4 * 2) % 2)) + (n / 4 % 2 + n / (4 * 2) % 2)) + (n % 2 + n / 2 % 2) := by
      simp only [f1_s, dv2]
    rw [h]
    show 4 * (4 * (4 * (4 * f1 (4 * k) (n / 256) + (n / 64 % 2 + n / 128 % 2)) + (n / 16 % 2 + n / 32 % 2)) + (n / 4 % 2 + n / 8 % 2)) + (n % 2 + n / 2 % 2) = _
    generalize n % 2 + n / 2 % 2 = p0
    generalize n / 4 % 2 + n / 8 % 2 = p1
    generalize n / 16 % 2 + n / 32 % 2 = p2
    generalize n / 64 % 2 + n / 128 % 2 = p3
    generalize f1 (4 * k) (n / 256) = F
    omega
  unfold hb
  rw [e, show 2 * (k + 1) = 2 * k + 1 + 1 by omega]
  have b0 : n % 2 + n / 2 % 2 ≤ 2 := le2
  have b1 : n / 4 % 2 + n / 8 % 2 ≤ 2 := le2
  have b2 : n / 16 % 2 + n / 32 % 2 ≤ 2 := le2
  have b3 : n / 64 % 2 + n / 128 % 2 ≤ 2 := le2
  generalize n % 2 + n / 2 % 2 = p0 at b0 ⊢
  generalize n / 4 % 2 + n / 8 % 2 = p1 at b1 ⊢
  generalize n / 16 % 2 + n / 32 % 2 = p2 at b2 ⊢
  generalize n / 64 % 2 + n / 128 % 2 = p3 at b3 ⊢
  exact hb_q b0 b1 b2 b3
