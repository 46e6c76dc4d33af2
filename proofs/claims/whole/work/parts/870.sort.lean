/-! The class's sort: stable insertion by a binary search. -/
/-- value c is not greater than value d -/
def fle (nu de : Nat → Nat) (c d : Nat) : Bool := decide (nu c * de d ≤ nu d * de c)
theorem fr_tr {a p b q c r : Nat} (hq : 0 < q) (h1 : a * q ≤ b * p) (h2 : b * r ≤ c * q) : a * r ≤ c * p := by
  have e1 : a * r * q ≤ c * p * q := by
    have s1 : a * q * r ≤ b * p * r := Nat.mul_le_mul_right r h1
    have s2 : b * r * p ≤ c * q * p := Nat.mul_le_mul_right p h2
    have t1 : a * r * q = a * q * r := Nat.mul_right_comm ..
    have t2 : b * p * r = b * r * p := Nat.mul_right_comm ..
    have t3 : c * q * p = c * p * q := Nat.mul_right_comm ..
    rw [t1, ← t3]
    exact Nat.le_trans s1 (by rw [t2]; exact s2)
  exact Nat.le_of_mul_le_mul_right e1 hq
theorem fle_tr {nu de : Nat → Nat} {c d e : Nat} (hd : 0 < de d) (h1 : fle nu de c d = true) (h2 : fle nu de d e = true) : fle nu de c e = true := decide_eq_true (fr_tr hd (of_decide_eq_true h1) (of_decide_eq_true h2))
theorem fle_tot {nu de : Nat → Nat} {c d : Nat} (h : fle nu de c d = false) : fle nu de d c = true := by
  have := of_decide_eq_false h
  exact decide_eq_true (by omega)
/-- the entry i goes to the place p -/
def insA (A : Nat → Nat) (i p : Nat) : Nat → Nat := fun k => if k < p then A k else if k = p then A i else if k ≤ i then A (k - 1) else A k
/-- how many of the i before are not greater -/
def posA (le : Nat → Nat → Bool) (A : Nat → Nat) (i : Nat) : Nat := cnt (fun p => le (A p) (A i)) i
/-- the first k put in order -/
def dsort (le : Nat → Nat → Bool) (A : Nat → Nat) : Nat → Nat → Nat
  | 0 => A
  | k + 1 => insA (dsort le A k) k (posA le (dsort le A k) k)
theorem cnt_split {P : Nat → Bool} {p : Nat} : ∀ (i : Nat), p ≤ i → (∀ j, j < p → P j = true) → (∀ j, p ≤ j → j < i → P j = false) → cnt P i = p
  | 0, h, _, _ => by
    obtain rfl : p = 0 := by omega
    rfl
  | i + 1, h, h1, h2 => by
    by_cases e : p = i + 1
    · subst e
      rw [cnt_congr (Q := fun _ => true) (i + 1) h1, cnt_true]
    · have e1 := cnt_split i (by omega) h1 (fun j h3 h4 => h2 j h3 (by omega))
      show cnt P i + (if P i then 1 else 0) = p
      rw [e1, h2 i (by omega) (by omega)]
      rfl
/-- in order -/
def inOrd (le : Nat → Nat → Bool) (A : Nat → Nat) (k : Nat) : Prop := ∀ p q, p < q → q < k → le (A p) (A q) = true
theorem posA_le {le : Nat → Nat → Bool} {A : Nat → Nat} {i : Nat} : posA le A i ≤ i := cnt_le i
/-- the place: those before are not greater, those behind are greater -/
theorem posA_ok {nu de : Nat → Nat} {A : Nat → Nat} {i : Nat} (hd : ∀ p, p ≤ i → 0 < de (A p)) (ho : inOrd (fle nu de) A i) : (∀ j, j < posA (fle nu de) A i → fle nu de (A j) (A i) = true) ∧ ∀ j, posA (fle nu de) A i ≤ j → j < i → fle nu de (A j) (A i) = false := by
  -- the first greater one
  by_cases h : ∃ j, j < i ∧ fle nu de (A j) (A i) = false
  · obtain ⟨p, hp, hp2, hmin⟩ := first_of (P := fun j => fle nu de (A j) (A i) = false) i h
    have h1 : ∀ j, j < p → fle nu de (A j) (A i) = true := fun j hj => by
      cases e : fle nu de (A j) (A i) with
      | true => rfl
      | false => exact absurd e (hmin j hj)
    have h2 : ∀ j, p ≤ j → j < i → fle nu de (A j) (A i) = false := fun j h3 h4 => by
      cases e : fle nu de (A j) (A i) with
      | false => rfl
      | true =>
        exfalso
        by_cases c : p = j
        · subst c
          rw [e] at hp2
          cases hp2
        · have h5 := fle_tr (hd j (by omega)) (ho p j (by omega) h4) e
          rw [h5] at hp2
          cases hp2
    have e : posA (fle nu de) A i = p := cnt_split i (by omega) h1 h2
    rw [e]
    exact ⟨h1, h2⟩
  · have h1 : ∀ j, j < i → fle nu de (A j) (A i) = true := fun j hj => by
      cases e : fle nu de (A j) (A i) with
      | true => rfl
      | false => exact absurd ⟨j, hj, e⟩ h
    have e : posA (fle nu de) A i = i := cnt_split i (Nat.le_refl _) h1 (fun j h3 h4 => by omega)
    rw [e]
    exact ⟨h1, fun j h3 h4 => by omega⟩
theorem insA_ord {nu de : Nat → Nat} {A : Nat → Nat} {i : Nat} (hd : ∀ p, p ≤ i → 0 < de (A p)) (ho : inOrd (fle nu de) A i) : inOrd (fle nu de) (insA A i (posA (fle nu de) A i)) (i + 1) := by
  obtain ⟨h1, h2⟩ := posA_ok hd ho
  have hp := posA_le (le := fle nu de) (A := A) (i := i)
  generalize posA (fle nu de) A i = p at h1 h2 hp ⊢
  intro a b hab hb
  unfold insA
  by_cases c1 : b < p
  · rw [if_pos c1, if_pos (show a < p by omega)]
    exact ho a b hab (by omega)
  · rw [if_neg c1]
    by_cases c2 : b = p
    · rw [if_pos c2, if_pos (show a < p by omega)]
      exact h1 a (by omega)
    · rw [if_neg c2, if_pos (show b ≤ i by omega)]
      by_cases c3 : a < p
      · rw [if_pos c3]
        exact ho a (b - 1) (by omega) (by omega)
      · rw [if_neg c3]
        by_cases c4 : a = p
        · rw [if_pos c4]
          exact fle_tot (h2 (b - 1) (by omega) (by omega))
        · rw [if_neg c4, if_pos (show a ≤ i by omega)]
          exact ho (a - 1) (b - 1) (by omega) (by omega)
/-- what is not yet put in order lies where it lay; what is, is of the first k -/
theorem dsort_hi {le : Nat → Nat → Bool} {A : Nat → Nat} : ∀ (k j : Nat), k ≤ j → dsort le A k j = A j
  | 0, _, _ => rfl
  | k + 1, j, h => by
    show insA (dsort le A k) k (posA le (dsort le A k) k) j = _
    have hp := posA_le (le := le) (A := dsort le A k) (i := k)
    unfold insA
    rw [if_neg (by omega), if_neg (by omega), if_neg (by omega)]
    exact dsort_hi k j (by omega)
theorem dsort_of {le : Nat → Nat → Bool} {A : Nat → Nat} : ∀ (k j : Nat), j < k → ∃ q, q < k ∧ dsort le A k j = A q
  | 0, _, h => by omega
  | k + 1, j, h => by
    have hp := posA_le (le := le) (A := dsort le A k) (i := k)
    show ∃ q, q < k + 1 ∧ insA (dsort le A k) k (posA le (dsort le A k) k) j = A q
    unfold insA
    by_cases c1 : j < posA le (dsort le A k) k
    · rw [if_pos c1]
      obtain ⟨q, q1, q2⟩ := dsort_of k j (by omega)
      exact ⟨q, by omega, q2⟩
    · rw [if_neg c1]
      by_cases c2 : j = posA le (dsort le A k) k
      · rw [if_pos c2]
        exact ⟨k, by omega, dsort_hi k k (Nat.le_refl _)⟩
      · rw [if_neg c2, if_pos (by omega)]
        obtain ⟨q, q1, q2⟩ := dsort_of k (j - 1) (by omega)
        exact ⟨q, by omega, q2⟩
theorem dsort_to {le : Nat → Nat → Bool} {A : Nat → Nat} : ∀ (k q : Nat), q < k → ∃ j, j < k ∧ dsort le A k j = A q
  | 0, _, h => by omega
  | k + 1, q, h => by
    have hp := posA_le (le := le) (A := dsort le A k) (i := k)
    show ∃ j, j < k + 1 ∧ insA (dsort le A k) k (posA le (dsort le A k) k) j = A q
    unfold insA
    by_cases c : q = k
    · subst c
      refine ⟨posA le (dsort le A q) q, by omega, ?_⟩
      rw [if_neg (by omega), if_pos rfl]
      exact dsort_hi q q (Nat.le_refl _)
    · obtain ⟨j, j1, j2⟩ := dsort_to k q (by omega)
      by_cases c1 : j < posA le (dsort le A k) k
      · exact ⟨j, by omega, by rw [if_pos c1]; exact j2⟩
      · refine ⟨j + 1, by omega, ?_⟩
        rw [if_neg (by omega), if_neg (by omega), if_pos (by omega)]
        exact j2
theorem dsort_ord {nu de : Nat → Nat} {A : Nat → Nat} (n : Nat) (hd : ∀ q, q < n → 0 < de (A q)) : ∀ (k : Nat), k ≤ n → inOrd (fle nu de) (dsort (fle nu de) A k) k
  | 0, _ => fun p q _ hq => by omega
  | k + 1, h => by
    refine insA_ord (fun p hp => ?_) (dsort_ord n hd k (by omega))
    by_cases c : p < k
    · obtain ⟨q, q1, q2⟩ := dsort_of (le := fle nu de) (A := A) k p c
      rw [q2]
      exact hd q (by omega)
    · obtain rfl : p = k := by omega
      rw [dsort_hi p p (Nat.le_refl _)]
      exact hd p (by omega)
