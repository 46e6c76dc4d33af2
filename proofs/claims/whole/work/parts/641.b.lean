/-! Counting. -/
/-- how many j below k have P -/
def cnt (P : Nat → Bool) : Nat → Nat
  | 0 => 0
  | k + 1 => cnt P k + (if P k then 1 else 0)
theorem cnt_congr {P Q : Nat → Bool} : ∀ (k : Nat), (∀ j, j < k → P j = Q j) → cnt P k = cnt Q k
  | 0, _ => rfl
  | k + 1, h => by
    unfold cnt
    rw [cnt_congr k (fun j hj => h j (by omega)), h k (by omega)]
theorem cnt_le {P : Nat → Bool} : ∀ (k : Nat), cnt P k ≤ k
  | 0 => Nat.le_refl _
  | k + 1 => by
    have := cnt_le (P := P) k
    unfold cnt
    split <;> omega
theorem cnt_add {P : Nat → Bool} (a : Nat) : ∀ (b : Nat), cnt P (a + b) = cnt P a + cnt (fun j => P (a + j)) b
  | 0 => rfl
  | b + 1 => by
    show cnt P (a + b) + _ = cnt P a + (cnt (fun j => P (a + j)) b + _)
    rw [cnt_add a b, Nat.add_assoc]
    rfl
theorem cnt_cut {P : Nat → Bool} {t : Nat} : ∀ (k : Nat), t ≤ k → (∀ j, t ≤ j → j < k → P j = false) → cnt P k = cnt P t
  | 0, h, _ => by
    obtain rfl : t = 0 := by omega
    rfl
  | k + 1, h, hf => by
    by_cases e : t = k + 1
    · rw [e]
    · unfold cnt
      rw [cnt_cut k (by omega) (fun j h1 h2 => hf j h1 (by omega)), hf k (by omega) (by omega)]
      cases t <;> rfl
theorem pcn_add : ∀ (a b n : Nat), pcn (a + b) n = pcn a n + pcn b (n / 2 ^ a)
  | 0, b, n => by
    rw [Nat.zero_add, Nat.pow_zero, Nat.div_one]
    show _ = 0 + _
    rw [Nat.zero_add]
  | a + 1, b, n => by
    rw [show a + 1 + b = a + b + 1 by omega]
    show n % 2 + pcn (a + b) (n / 2) = n % 2 + pcn a (n / 2) + _
    rw [pcn_add a b (n / 2), Nat.div_div_eq_div_mul, Nat.pow_succ, Nat.mul_comm 2, Nat.add_assoc]
theorem pcn_cnt (n : Nat) : ∀ (k : Nat), pcn k n = cnt (fun j => n.testBit j) k
  | 0 => rfl
  | k + 1 => by
    rw [pcn_add k 1 n, pcn_cnt n k]
    show _ + (n / 2 ^ k % 2 + 0) = _ + (if n.testBit k then 1 else 0)
    rw [Nat.testBit_eq_decide_div_mod_eq]
    by_cases h : n / 2 ^ k % 2 = 1
    · rw [h, if_pos (decide_eq_true rfl)]
    · rw [if_neg (by rw [decide_eq_true_eq]; exact h)]
      omega
theorem pcn_le : ∀ (k n : Nat), pcn k n ≤ k
  | 0, _ => Nat.le_refl _
  | k + 1, n => by
    have := pcn_le k (n / 2)
    unfold pcn
    omega
theorem nb_lt : ∀ (k z : Nat), nb k z → 15 * z + 4 ≤ 4 * 256 ^ k
  | 0, z, h => by
    unfold nb at h
    subst h
    decide
  | k + 1, z, h => by
    obtain ⟨h1, h2, h3⟩ := h
    have := nb_lt k (z / 256) h3
    rw [Nat.pow_succ]
    omega
