/-! Long.bitCount counts the bits: on naturals. -/
/-- how many of the k lowest bits -/
def pcn : Nat → Nat → Nat
  | 0, _ => 0
  | k + 1, n => n % 2 + pcn k (n / 2)
def m1 : Nat → Nat
  | 0 => 0
  | k + 1 => 4 * m1 k + 1
def m2 : Nat → Nat
  | 0 => 0
  | k + 1 => 16 * m2 k + 3
def m3 : Nat → Nat
  | 0 => 0
  | k + 1 => 256 * m3 k + 15
def f1 : Nat → Nat → Nat
  | 0, _ => 0
  | k + 1, n => 4 * f1 k (n / 4) + (n % 2 + n / 2 % 2)
def f2 : Nat → Nat → Nat
  | 0, _ => 0
  | k + 1, y => 16 * f2 k (y / 16) + (y % 4 + y / 4 % 4)
def f3 : Nat → Nat → Nat
  | 0, _ => 0
  | k + 1, z => 256 * f3 k (z / 256) + (z % 16 + z / 16 % 16)
theorem and_cut (s : Nat) {a b r t : Nat} (hr : r < 2 ^ s) (ht : t < 2 ^ s) : (2 ^ s * a + r) &&& (2 ^ s * b + t) = 2 ^ s * (a &&& b) + (r &&& t) := by
  apply Nat.eq_of_testBit_eq
  intro i
  rw [Nat.testBit_and]
  have hrt : r &&& t < 2 ^ s := Nat.lt_of_le_of_lt Nat.and_le_left hr
  rw [Nat.testBit_two_pow_mul_add _ hr, Nat.testBit_two_pow_mul_add _ ht, Nat.testBit_two_pow_mul_add _ hrt]
  by_cases h : i < s
  · rw [if_pos h, if_pos h, if_pos h, Nat.testBit_and]
  · rw [if_neg h, if_neg h, if_neg h, Nat.testBit_and]
theorem and_1 : ∀ r, r < 4 → r &&& 1 = r % 2 := by decide
theorem and_3 : ∀ r, r < 16 → r &&& 3 = r % 4 := by decide
theorem and_15 : ∀ r, r < 256 → r &&& 15 = r % 16 := by decide +kernel
theorem st1 : ∀ (k n : Nat), n < 4 ^ k → n - (n / 2 &&& m1 k) = f1 k n ∧ n / 2 &&& m1 k ≤ n
  | 0, n, h => by
    have : n = 0 := by omega
    subst this
    exact ⟨rfl, Nat.le_refl _⟩
  | k + 1, n, h => by
    have h4 : n / 4 < 4 ^ k := by
      rw [Nat.pow_succ] at h
      omega
    obtain ⟨e1, e2⟩ := st1 k (n / 4) h4
    have e : n / 2 &&& m1 (k + 1) = 4 * (n / 4 / 2 &&& m1 k) + n / 2 % 2 := by
      have h0 := and_cut 2 (a := n / 8) (b := m1 k) (r := n / 2 % 4) (t := 1) (by show _ < 4; omega) (by decide)
      rw [show 2 ^ 2 * (n / 8) + n / 2 % 4 = n / 2 by omega, show 2 ^ 2 * m1 k + 1 = m1 (k + 1) from rfl] at h0
      rw [h0, and_1 _ (by omega), show n / 4 / 2 = n / 8 by omega]
      omega
    rw [e]
    unfold f1
    rw [← e1]
    omega
theorem st2 : ∀ (k y : Nat), y < 16 ^ k → (y &&& m2 k) + (y / 4 &&& m2 k) = f2 k y
  | 0, y, h => by
    have : y = 0 := by omega
    subst this
    rfl
  | k + 1, y, h => by
    have h4 : y / 16 < 16 ^ k := by
      rw [Nat.pow_succ] at h
      omega
    have e1 := st2 k (y / 16) h4
    have h0 := and_cut 4 (a := y / 16) (b := m2 k) (r := y % 16) (t := 3) (by show _ < 16; omega) (by decide)
    rw [show 2 ^ 4 * (y / 16) + y % 16 = y by omega, show 2 ^ 4 * m2 k + 3 = m2 (k + 1) from rfl, and_3 _ (by omega)] at h0
    have h1 := and_cut 4 (a := y / 64) (b := m2 k) (r := y / 4 % 16) (t := 3) (by show _ < 16; omega) (by decide)
    rw [show 2 ^ 4 * (y / 64) + y / 4 % 16 = y / 4 by omega, show 2 ^ 4 * m2 k + 3 = m2 (k + 1) from rfl, and_3 _ (by omega)] at h1
    rw [h0, h1]
    unfold f2
    rw [← e1, show y / 16 / 4 = y / 64 by omega]
    omega
