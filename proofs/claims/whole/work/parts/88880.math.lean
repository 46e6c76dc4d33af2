/-! The figures that a print shows: how many, and which. -/
theorem dg_ex : ∀ (n v : Nat), v ≤ n → 0 < v → ∃ c, 1 ≤ c ∧ 10 ^ (c - 1) ≤ v ∧ v < 10 ^ c
  | 0, v, h, h0 => by omega
  | n + 1, v, h, h0 => by
    by_cases h9 : v < 10
    · exact ⟨1, by decide, h0, h9⟩
    · obtain ⟨c, c1, c2, c3⟩ := dg_ex n (v / 10) (by omega) (by omega)
      refine ⟨c + 1, by omega, ?_, ?_⟩
      · obtain ⟨d, rfl⟩ : ∃ d, c = d + 1 := ⟨c - 1, by omega⟩
        have e : (10 : Nat) ^ (d + 1 + 1 - 1) = 10 ^ d * 10 := by
          show (10 : Nat) ^ (d + 1) = 10 ^ d * 10
          exact Nat.pow_succ _ _
        have c2' : 10 ^ d ≤ v / 10 := c2
        rw [e]
        generalize 10 ^ d = x at c2' ⊢
        omega
      · rw [Nat.pow_succ]
        generalize 10 ^ c = x at c3 ⊢
        omega
theorem dg_63 {c v : Nat} (h : 10 ^ (c - 1) ≤ v) (hv : v ≤ 2 ^ 200 * 200) : c ≤ 63 := by
  have h1 : 10 ^ (c - 1) < 10 ^ 63 := Nat.lt_of_le_of_lt (Nat.le_trans h hv) (by decide)
  have h2 := (Nat.pow_lt_pow_iff_right (a := 10) (by decide)).mp h1
  omega
/-- the fraction X / Y as written -/
def jT (X Y c1 : Nat) (c2 : Nat) : Nat → Nat := fun i => if i < c1 then 48 + X / 10 ^ (c1 - 1 - i) % 10 else if i = c1 then 47 else 48 + Y / 10 ^ (c2 - 1 - (i - (c1 + 1))) % 10
def jL (Y c1 c2 : Nat) : Nat := if Y = 1 then 1 else c1 + 1 + c2
theorem low_1 {a b : Nat} (h0 : 0 < a) (hab : a ≤ b) (h : b / Nat.gcd a b = 1) : a / Nat.gcd a b = 1 := by
  have hg : 0 < Nat.gcd a b := Nat.gcd_pos_of_pos_left b h0
  have h1 : a / Nat.gcd a b ≤ b / Nat.gcd a b := Nat.div_le_div_right hab
  have h2 : 0 < a / Nat.gcd a b := Nat.div_pos (Nat.gcd_le_left b h0) hg
  omega
theorem low_ne {a b : Nat} (h0 : 0 < a) (h : b / Nat.gcd a b ≠ 1) : a / Nat.gcd a b ≠ b / Nat.gcd a b := fun e => by
  have e1 := Nat.mul_div_cancel' (Nat.gcd_dvd_left a b)
  have e2 := Nat.mul_div_cancel' (Nat.gcd_dvd_right a b)
  rw [e, e2] at e1
  subst e1
  apply h
  rw [Nat.gcd_self]
  exact Nat.div_self h0
theorem jT_0 {X Y c1 c2 : Nat} (hX : X = 1) (h1 : 1 ≤ c1) (h : 10 ^ (c1 - 1) ≤ X) : c1 = 1 ∧ jT X Y c1 c2 0 = 49 := by
  subst hX
  have e : c1 = 1 := by
    by_cases c : c1 - 1 = 0
    · omega
    · have k : 10 ^ 1 ≤ 10 ^ (c1 - 1) := Nat.pow_le_pow_right (by decide) (by omega)
      exact absurd (Nat.le_trans k h) (by decide)
  subst e
  exact ⟨rfl, rfl⟩
theorem rnd_lt {a b q : Nat} (hb : 0 < b) (hab : a ≤ b) : rnd a b q < 10 ^ (q + 1) := by
  have h1 : a * 10 ^ q / b ≤ 10 ^ q := by
    have := Nat.div_le_div_right (c := b) (Nat.mul_le_mul_right (10 ^ q) hab)
    rw [Nat.mul_div_cancel_left _ hb] at this
    exact this
  have h2 : 0 < 10 ^ q := Nat.pow_pos (by decide)
  unfold rnd
  rw [Nat.pow_succ]
  by_cases c : upV a b q = true
  · have := up_lt hb hab c
    rw [if_pos c]
    omega
  · rw [if_neg c]
    omega
theorem wq_tx {V q j : Nat} (hj : j < txL q) : q + 1 + dot q (q + 1) = txL q ∧ wq V q (txL q - 1 - j) = tx V q j := by
  unfold txL at hj ⊢
  unfold dot wq tx
  by_cases c : q = 0
  · rw [if_pos c] at hj
    rw [if_pos c, if_neg (by omega), if_pos (Or.inl c), if_pos (by omega)]
    subst c
    have : j = 0 := by omega
    subst this
    exact ⟨rfl, rfl⟩
  · rw [if_neg c] at hj
    rw [if_neg c, if_pos (by omega)]
    refine ⟨rfl, ?_⟩
    by_cases h0 : j = 0
    · rw [if_pos h0, if_neg (by omega), if_neg (by omega), show q + 2 - 1 - j - 1 = q by omega]
    · rw [if_neg h0]
      by_cases h1 : j = 1
      · rw [if_pos h1, if_neg (by omega), if_pos (by omega)]
      · rw [if_neg h1, if_pos (by omega), show q + 2 - 1 - j = q + 1 - j by omega]
