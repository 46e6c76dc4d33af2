/-! The order and the values of a ranking, as numbers. -/
def slt (nu de : Nat → Nat) (c d : Nat) : Prop := nu c * de d < nu d * de c ∨ (nu c * de d = nu d * de c ∧ c < d)
theorem slt_ne {nu de : Nat → Nat} {c d : Nat} (h : slt nu de c d) : c ≠ d := by
  intro e
  subst e
  rcases h with h | h <;> omega
theorem slt_as {nu de : Nat → Nat} {c d : Nat} (h : slt nu de c d) (k : slt nu de d c) : False := by
  unfold slt at h k
  omega
theorem dsort_st {nu de : Nat → Nat} {A : Nat → Nat} (n : Nat) (hd : ∀ q, q < n → 0 < de (A q)) (hA : ∀ p q, p < q → q < n → A p < A q) : ∀ (k : Nat), k ≤ n → ∀ p q, p < q → q < k → slt nu de (dsort (fle nu de) A k p) (dsort (fle nu de) A k q)
  | 0, _ => fun p q _ hq => by omega
  | k + 1, h => by
    have ih := dsort_st (nu := nu) n hd hA k (by omega)
    have hdp : ∀ p, p ≤ k → 0 < de (dsort (fle nu de) A k p) := fun p hp => by
      by_cases c : p < k
      · obtain ⟨q, q1, q2⟩ := dsort_of (le := fle nu de) (A := A) k p c
        rw [q2]
        exact hd q (by omega)
      · obtain rfl : p = k := by omega
        rw [dsort_hi p p (Nat.le_refl _)]
        exact hd p (by omega)
    obtain ⟨h1, h2⟩ := posA_ok hdp (dsort_ord (nu := nu) n hd k (by omega))
    have hp := posA_le (le := fle nu de) (A := dsort (fle nu de) A k) (i := k)
    have hk : dsort (fle nu de) A k k = A k := dsort_hi k k (Nat.le_refl _)
    have hlt : ∀ j, j < k → dsort (fle nu de) A k j < A k := fun j hj => by
      obtain ⟨q, q1, q2⟩ := dsort_of (le := fle nu de) (A := A) k j hj
      rw [q2]
      exact hA q k q1 (by omega)
    show ∀ p q, p < q → q < k + 1 → slt nu de (insA (dsort (fle nu de) A k) k (posA (fle nu de) (dsort (fle nu de) A k) k) p) (insA (dsort (fle nu de) A k) k (posA (fle nu de) (dsort (fle nu de) A k) k) q)
    generalize posA (fle nu de) (dsort (fle nu de) A k) k = r at h1 h2 hp
    rw [hk] at h1 h2
    generalize dsort (fle nu de) A k = B at *
    intro a b hab hb
    have lo : ∀ j, j < r → slt nu de (B j) (A k) := fun j hj => by
      have a1 := of_decide_eq_true (h1 j hj)
      have a2 := hlt j (by omega)
      unfold slt
      omega
    have up : ∀ j, r ≤ j → j < k → slt nu de (A k) (B j) := fun j hj hj2 => by
      have a1 := of_decide_eq_false (h2 j hj hj2)
      unfold slt
      omega
    unfold insA
    rw [hk]
    by_cases c1 : b < r
    · rw [if_pos c1, if_pos (show a < r by omega)]
      exact ih a b hab (by omega)
    · rw [if_neg c1]
      by_cases c2 : b = r
      · rw [if_pos c2, if_pos (show a < r by omega)]
        exact lo a (by omega)
      · rw [if_neg c2, if_pos (show b ≤ k by omega)]
        by_cases c3 : a < r
        · rw [if_pos c3]
          exact ih a (b - 1) (by omega) (by omega)
        · rw [if_neg c3]
          by_cases c4 : a = r
          · rw [if_pos c4]
            exact up (b - 1) (by omega) (by omega)
          · rw [if_neg c4, if_pos (show a ≤ k by omega)]
            exact ih (a - 1) (b - 1) (by omega) (by omega)
/-- two rows in strict order of the same things are the same -/
theorem seq_eq {nu de : Nat → Nat} {a b : Nat → Nat} {r t : Nat} (ha : ∀ p q, p < q → q < r → slt nu de (a p) (a q)) (hb : ∀ p q, p < q → q < t → slt nu de (b p) (b q)) (hab : ∀ i, i < r → ∃ k, k < t ∧ b k = a i) (hba : ∀ i, i < t → ∃ k, k < r ∧ a k = b i) : r = t ∧ ∀ i, i < r → a i = b i := by
  have key : ∀ n i, i < n → i < r → i < t → a i = b i := by
    intro n
    induction n with
    | zero => intro i h; omega
    | succ n ih =>
      intro i hi h1 h2
      have low : ∀ j, j < i → a j = b j := fun j hj => ih j (by omega) (by omega) (by omega)
      obtain ⟨k, k1, k2⟩ := hab i h1
      obtain ⟨l, l1, l2⟩ := hba i h2
      have hk : i ≤ k := by
        by_cases c : i ≤ k
        · exact c
        · have e := low k (by omega)
          exact absurd (e.trans k2) (slt_ne (ha k i (by omega) h1))
      have hl : i ≤ l := by
        by_cases c : i ≤ l
        · exact c
        · have e := low l (by omega)
          exact absurd (e.symm.trans l2) (slt_ne (hb l i (by omega) h2))
      by_cases c : k = i
      · subst c
        exact k2.symm
      · by_cases d : l = i
        · subst d
          exact l2
        · have s1 := hb i k (by omega) k1
          have s2 := ha i l (by omega) l1
          rw [k2] at s1
          rw [l2] at s2
          exact (slt_as s1 s2).elim
  have hrt : r = t := by
    by_cases c : r < t
    · obtain ⟨l, l1, l2⟩ := hba r c
      have e := key (l + 1) l (by omega) l1 (by omega)
      exact absurd (e.symm.trans l2) (slt_ne (hb l r l1 c))
    · by_cases d : t < r
      · obtain ⟨l, l1, l2⟩ := hab t d
        have e := key (l + 1) l (by omega) (by omega) l1
        exact absurd (e.trans l2) (slt_ne (ha l t l1 d))
      · omega
  exact ⟨hrt, fun i hi => key (i + 1) i (by omega) hi (by omega)⟩
/-! the candidates by their chances -/
def z_b (s : GS) (j : Nat) : Nat := dsort (fle (z_x s) (fun _ => 1)) (fun c => c) (z_m s) j
theorem z_b_lt {s : GS} {j : Nat} (h : j < z_m s) : z_b s j < z_m s := by
  obtain ⟨q, q1, q2⟩ := dsort_of (le := fle (z_x s) (fun _ => 1)) (A := fun c => c) (z_m s) j h
  unfold z_b
  rw [q2]
  exact q1
theorem z_b_to {s : GS} {c : Nat} (h : c < z_m s) : ∃ j, j < z_m s ∧ z_b s j = c := dsort_to (le := fle (z_x s) (fun _ => 1)) (A := fun c => c) (z_m s) c h
theorem z_b_ne {s : GS} {i j : Nat} (hi : i < z_m s) (hj : j < z_m s) (h : i ≠ j) : z_b s i ≠ z_b s j := by
  have st := dsort_st (nu := z_x s) (de := fun _ => 1) (A := fun c => c) (z_m s) (fun _ _ => Nat.one_pos) (fun _ _ h _ => h) (z_m s) (Nat.le_refl _)
  by_cases c : i < j
  · exact slt_ne (st i j c hj)
  · exact (slt_ne (st j i (by omega) hi)).symm
/-! the values by the place j -/
def v2 (s : GS) : Nat → Nat
  | 0 => capN (z_x s (z_b s 0)) (z_A s) (z_m s) 1
  | j + 1 => if capN (z_x s (z_b s (j + 1))) (z_A s) (z_m s - (j + 1)) 1 < v2 s j then v2 s j else capN (z_x s (z_b s (j + 1))) (z_A s) (z_m s - (j + 1)) 1
def c3N (s : GS) (j : Nat) : Nat := capN (z_x s (z_b s j)) (z_A s) (z_m s) (j + 1)
def c3D (s : GS) (j : Nat) : Nat := capD (z_x s (z_b s j)) (z_A s) (z_m s) (j + 1)
def w3 (s : GS) : Nat → Nat × Nat
  | 0 => (c3N s (z_m s - 1), c3D s (z_m s - 1))
  | i + 1 => if (w3 s i).1 * c3D s (z_m s - 1 - (i + 1)) < c3N s (z_m s - 1 - (i + 1)) * (w3 s i).2 then w3 s i else (c3N s (z_m s - 1 - (i + 1)), c3D s (z_m s - 1 - (i + 1)))
def zN (s : GS) (v j : Nat) : Nat := if v = 0 then z_x s (z_b s j) else if v = 1 then capN (z_x s (z_b s j)) (z_A s) (z_m s) 1 else if v = 2 then v2 s j else (w3 s (z_m s - 1 - j)).1
def zD (s : GS) (v j : Nat) : Nat := if v ≤ 2 then 1 else (w3 s (z_m s - 1 - j)).2
theorem capD_1 {x A t : Nat} : capD x A t 1 = 1 := by
  unfold capD
  split <;> rfl
theorem cap_ok {x A t b : Nat} (hx : 0 < x) (hA : 0 < A) (ht : 0 < t) (hb : 0 < b) (hb2 : b ≤ 200) : 0 < capN x A t b ∧ capN x A t b ≤ A * capD x A t b ∧ 0 < capD x A t b ∧ capD x A t b ≤ 200 := by
  unfold capN capD
  by_cases c : A * b ≤ x * t
  · rw [if_pos c, if_pos c]
    omega
  · rw [if_neg c, if_neg c]
    exact ⟨Nat.mul_pos hx ht, by omega, hb, hb2⟩
theorem sR_pos {f : Nat → Nat} {h : Nat} (h0 : 0 < f h) : ∀ d, 0 < sR f h (d + 1) := fun d => by
  rw [sR_s]
  omega
theorem z_x_pos (s : GS) (c : Nat) : 0 < z_x s c := by
  obtain ⟨h1, h2, h3, h4⟩ := z_ok s c
  unfold z_x hs
  rw [show min (z_k s c) (z_n s) + 1 - z_h s c = (min (z_k s c) (z_n s) - z_h s c) + 1 by omega]
  exact sR_pos (f := wt (z_k s c) (s_n s - z_k s c) (z_n s)) (h := z_h s c) (Nat.mul_pos (ch_pos _ _ h1) (ch_pos _ _ h4)) _
theorem v2_ok {s : GS} (hs : Gd s) : ∀ j, j < z_m s → 0 < v2 s j ∧ v2 s j ≤ z_A s
  | 0, h => by
    have := cap_ok (z_x_pos s (z_b s 0)) (z_A_pos s) h (show 0 < 1 by decide) (by decide)
    rw [capD_1] at this
    exact ⟨this.1, by have := this.2.1; rwa [Nat.mul_one] at this⟩
  | j + 1, h => by
    have := cap_ok (z_x_pos s (z_b s (j + 1))) (z_A_pos s) (show 0 < z_m s - (j + 1) by omega) (show 0 < 1 by decide) (by decide)
    rw [capD_1, Nat.mul_one] at this
    have ih := v2_ok hs j (by omega)
    show 0 < (if _ then _ else _) ∧ (if _ then _ else _) ≤ _
    split
    · exact ih
    · exact ⟨this.1, this.2.1⟩
theorem c3_ok {s : GS} (hs : Gd s) {j : Nat} (h : j < z_m s) : 0 < c3N s j ∧ c3N s j ≤ z_A s * c3D s j ∧ 0 < c3D s j ∧ c3D s j ≤ 200 := by
  have := z_m_le hs
  exact cap_ok (z_x_pos s (z_b s j)) (z_A_pos s) (by omega) (Nat.succ_pos j) (by omega)
theorem w3_ok {s : GS} (hs : Gd s) : ∀ i, i < z_m s → 0 < (w3 s i).1 ∧ (w3 s i).1 ≤ z_A s * (w3 s i).2 ∧ 0 < (w3 s i).2 ∧ (w3 s i).2 ≤ 200
  | 0, h => c3_ok hs (show z_m s - 1 < z_m s by omega)
  | i + 1, h => by
    have ih := w3_ok hs i (by omega)
    have k := c3_ok hs (show z_m s - 1 - (i + 1) < z_m s by omega)
    unfold w3
    split
    · exact ih
    · exact k
theorem zV_ok {s : GS} (hs : Gd s) {v j : Nat} (hj : j < z_m s) : 0 < zN s v j ∧ zN s v j ≤ z_A s * zD s v j ∧ 0 < zD s v j ∧ zD s v j ≤ 200 := by
  unfold zN zD
  by_cases c0 : v = 0
  · rw [if_pos c0, if_pos (by omega), Nat.mul_one]
    exact ⟨z_x_pos _ _, z_x_le _ _, by decide, by decide⟩
  · rw [if_neg c0]
    by_cases c1 : v = 1
    · rw [if_pos c1, if_pos (by omega)]
      have := cap_ok (z_x_pos s (z_b s j)) (z_A_pos s) (show 0 < z_m s by omega) (show 0 < 1 by decide) (by decide)
      rw [capD_1] at this
      exact this
    · rw [if_neg c1]
      by_cases c2 : v = 2
      · rw [if_pos c2, if_pos (by omega), Nat.mul_one]
        exact ⟨(v2_ok hs j hj).1, (v2_ok hs j hj).2, by decide, by decide⟩
      · rw [if_neg c2, if_neg (by omega)]
        exact w3_ok hs _ (by omega)
