/-! Binomials. -/
def ch : Nat → Nat → Nat
  | _, 0 => 1
  | 0, _ + 1 => 0
  | n + 1, k + 1 => ch n k + ch n (k + 1)
theorem ch_0 {n : Nat} : ch n 0 = 1 := by cases n <;> rfl
theorem ch_s {n k : Nat} : ch (n + 1) (k + 1) = ch n k + ch n (k + 1) := rfl
theorem ch_big : ∀ (n k : Nat), n < k → ch n k = 0
  | 0, 0, h => by omega
  | 0, _ + 1, _ => rfl
  | n + 1, 0, h => by omega
  | n + 1, k + 1, h => by rw [ch_s, ch_big n k (by omega), ch_big n (k + 1) (by omega)]
theorem ch_pos : ∀ (n k : Nat), k ≤ n → 0 < ch n k
  | _, 0, _ => by rw [ch_0]; decide
  | 0, _ + 1, h => by omega
  | n + 1, k + 1, h => by
    have := ch_pos n k (by omega)
    rw [ch_s]
    omega
theorem ch_two : ∀ (n k : Nat), ch n k ≤ 2 ^ n
  | 0, 0 => Nat.le_refl _
  | 0, _ + 1 => Nat.zero_le _
  | n + 1, 0 => by
    rw [ch_0]
    exact Nat.two_pow_pos _
  | n + 1, k + 1 => by
    have h1 := ch_two n k
    have h2 := ch_two n (k + 1)
    rw [ch_s, Nat.pow_succ]
    omega
/-- (k + 1) C(n + 1, k + 1) = (n + 1) C(n, k) -/
theorem ch_ab : ∀ (n k : Nat), (k + 1) * ch (n + 1) (k + 1) = (n + 1) * ch n k
  | 0, 0 => rfl
  | 0, k + 1 => by
    rw [ch_s, ch_big 0 (k + 1) (by omega), ch_big 0 (k + 1 + 1) (by omega)]
    rfl
  | n + 1, 0 => by
    have h := ch_ab n 0
    rw [ch_0] at h ⊢
    rw [ch_s, ch_0]
    omega
  | n + 1, k + 1 => by
    have h1 := ch_ab n k
    have h2 := ch_ab n (k + 1)
    rw [ch_s (n := n + 1) (k := k + 1), Nat.mul_add, h2]
    rw [show (k + 1 + 1) * ch (n + 1) (k + 1) = (k + 1) * ch (n + 1) (k + 1) + ch (n + 1) (k + 1) by rw [Nat.add_mul, Nat.one_mul], h1, ch_s (n := n) (k := k)]
    rw [show (n + 1 + 1) * (ch n k + ch n (k + 1)) = (n + 1) * ch n k + (n + 1) * ch n (k + 1) + (ch n k + ch n (k + 1)) by rw [Nat.add_mul, Nat.one_mul, Nat.mul_add]]
    omega
/-- (k + 1) C(n, k + 1) = (n - k) C(n, k) -/
theorem ch_up (n k : Nat) : (k + 1) * ch n (k + 1) = (n - k) * ch n k := by
  rcases Nat.lt_or_ge n k with h | h
  · rw [ch_big n (k + 1) (by omega), ch_big n k h, Nat.mul_zero, Nat.mul_zero]
  · have h1 := ch_ab n k
    rw [ch_s, Nat.mul_add] at h1
    have h2 : (n + 1) * ch n k = (k + 1) * ch n k + (n - k) * ch n k := by
      rw [← Nat.add_mul]
      congr 1
      omega
    omega
/-- one step of multiplyByChoices -/
theorem ch_mc {m i v : Nat} : v * ch (m + i) i * (m + (i + 1)) / (i + 1) = v * ch (m + (i + 1)) (i + 1) := by
  have h := ch_ab (m + i) i
  have e : v * ch (m + i) i * (m + (i + 1)) = (i + 1) * (v * ch (m + (i + 1)) (i + 1)) := by
    rw [show m + (i + 1) = m + i + 1 by omega, Nat.mul_left_comm (i + 1), h, Nat.mul_assoc, Nat.mul_comm (ch (m + i) i)]
  rw [e, Nat.mul_div_cancel_left _ (by omega)]
/-- f h + f (h + 1) + .. of d terms -/
def sR (f : Nat → Nat) (h : Nat) : Nat → Nat
  | 0 => 0
  | d + 1 => sR f h d + f (h + d)
/-- the ways with i of K and n - i of M -/
def wt (K M n i : Nat) : Nat := ch K i * ch M (n - i)
/-- one way's number from the one before -/
theorem wt_up {K M n i : Nat} (h1 : i < n) (h2 : n ≤ M + i) : wt K M n i * ((K - i) * (n - i)) / ((i + 1) * (M + i + 1 - n)) = wt K M n (i + 1) := by
  have e1 := ch_up K i
  have e2 := ch_up M (n - (i + 1))
  rw [show n - (i + 1) + 1 = n - i by omega, show M - (n - (i + 1)) = M + i + 1 - n by omega] at e2
  unfold wt
  have e : ch K i * ch M (n - i) * ((K - i) * (n - i)) = ((i + 1) * (M + i + 1 - n)) * (ch K (i + 1) * ch M (n - (i + 1))) := by
    have a1 : ch K i * ch M (n - i) * ((K - i) * (n - i)) = ((K - i) * ch K i) * ((n - i) * ch M (n - i)) := by
      rw [Nat.mul_mul_mul_comm, Nat.mul_comm (ch K i) (K - i), Nat.mul_comm (ch M (n - i)) (n - i)]
    rw [a1, ← e1, e2, Nat.mul_mul_mul_comm]
  rw [e, Nat.mul_div_cancel_left _ (Nat.mul_pos (by omega) (by omega))]
theorem sR_s (f : Nat → Nat) (h : Nat) : ∀ d, sR f h (d + 1) = f h + sR f (h + 1) d
  | 0 => by
    show 0 + f (h + 0) = f h + 0
    rw [Nat.zero_add, Nat.add_zero, Nat.add_zero]
  | d + 1 => by
    show sR f h (d + 1) + f (h + (d + 1)) = f h + (sR f (h + 1) d + f (h + 1 + d))
    rw [sR_s f h d, show h + (d + 1) = h + 1 + d by omega]
    omega
theorem sR_add {f g : Nat → Nat} {h : Nat} : ∀ d, sR (fun i => f i + g i) h d = sR f h d + sR g h d
  | 0 => rfl
  | d + 1 => by
    show sR (fun i => f i + g i) h d + (f (h + d) + g (h + d)) = _
    rw [sR_add d]
    show _ = sR f h d + f (h + d) + (sR g h d + g (h + d))
    omega
theorem sR_congr {f g : Nat → Nat} {h : Nat} : ∀ d, (∀ i, h ≤ i → i < h + d → f i = g i) → sR f h d = sR g h d
  | 0, _ => rfl
  | d + 1, e => by
    show sR f h d + f (h + d) = sR g h d + g (h + d)
    rw [sR_congr d (fun i h1 h2 => e i h1 (by omega)), e (h + d) (by omega) (by omega)]
theorem sR_shift {f : Nat → Nat} {h : Nat} : ∀ d, sR (fun i => f (i + 1)) h d = sR f (h + 1) d
  | 0 => rfl
  | d + 1 => by
    show sR (fun i => f (i + 1)) h d + f (h + d + 1) = sR f (h + 1) d + f (h + 1 + d)
    rw [sR_shift d, show h + d + 1 = h + 1 + d by omega]
/-- all ways together -/
theorem vand : ∀ (K M n : Nat), sR (wt K M n) 0 (n + 1) = ch (K + M) n
  | 0, M, n => by
    rw [sR_s]
    have e : sR (wt 0 M n) (0 + 1) n = 0 := by
      rw [sR_congr (g := fun _ => 0) n (fun i h1 h2 => by
        unfold wt
        rw [ch_big 0 i (by omega), Nat.zero_mul])]
      induction n with
      | zero => rfl
      | succ n ih => exact ih
    rw [e, Nat.zero_add]
    unfold wt
    rw [ch_0, Nat.one_mul, Nat.add_zero]
    rfl
  | K + 1, M, 0 => by
    rw [ch_0]
    show 0 + wt (K + 1) M 0 (0 + 0) = 1
    unfold wt
    rw [ch_0, ch_0]
  | K + 1, M, n + 1 => by
    have h1 := vand K M n
    have h2 := vand K M (n + 1)
    rw [sR_s] at h2 ⊢
    have e : sR (wt (K + 1) M (n + 1)) (0 + 1) (n + 1) = sR (wt K M n) 0 (n + 1) + sR (wt K M (n + 1)) (0 + 1) (n + 1) := by
      rw [← sR_shift, ← sR_shift (f := wt K M (n + 1)), ← sR_add]
      refine sR_congr (n + 1) (fun i _ hi => ?_)
      show wt (K + 1) M (n + 1) (i + 1) = wt K M n i + wt K M (n + 1) (i + 1)
      unfold wt
      rw [ch_s, Nat.add_mul, show n + 1 - (i + 1) = n - i by omega]
    have e0 : wt (K + 1) M (n + 1) 0 = wt K M (n + 1) 0 := by
      unfold wt
      rw [ch_0, ch_0]
    rw [e, e0, h1, show K + 1 + M = K + M + 1 by omega, ch_s, ← h2]
    omega
theorem sR_le {f : Nat → Nat} : ∀ (d e h : Nat), sR f (h + e) d ≤ sR f h (e + d)
  | d, 0, h => by
    rw [Nat.add_zero, Nat.zero_add]
    exact Nat.le_refl _
  | d, e + 1, h => by
    have h1 := sR_le (f := f) d e (h + 1)
    rw [show h + (e + 1) = h + 1 + e by omega, show e + 1 + d = e + d + 1 by omega, sR_s]
    omega
theorem sR_mono {f : Nat → Nat} {h : Nat} : ∀ (e d : Nat), sR f h d ≤ sR f h (d + e)
  | 0, d => Nat.le_refl _
  | e + 1, d => by
    have := sR_mono (f := f) (h := h) e d
    show _ ≤ sR f h (d + e) + f (h + (d + e))
    omega
/-- a part of the ways is not more than all -/
theorem ways_le {K M n h d : Nat} (hd : h + d ≤ n + 1) : sR (wt K M n) h d ≤ ch (K + M) n := by
  have h1 := sR_le (f := wt K M n) d h 0
  rw [Nat.zero_add] at h1
  have h2 := sR_mono (f := wt K M n) (h := 0) (n + 1 - (h + d)) (h + d)
  rw [show h + d + (n + 1 - (h + d)) = n + 1 by omega, vand] at h2
  omega
theorem wt_le {K M n i : Nat} (hi : i ≤ n) : wt K M n i ≤ ch (K + M) n := by
  have h := ways_le (K := K) (M := M) (n := n) (h := i) (d := 1) (by omega)
  have e : sR (wt K M n) i 1 = wt K M n i := by
    show 0 + wt K M n (i + 0) = _
    rw [Nat.zero_add, Nat.add_zero]
  omega
/-! the class: multiplyByChoices, sumWays -/
theorem p_choices {u : gSt} {r v m t : Nat} (hk : gK r = 22) (hl : gLen r = 8) (hm : m + t ≤ 200) (hv : Wv u r v) (hb : ∀ i, i ≤ t → v * ch (m + i) i ≤ 2 ^ 200) : M_Wide_multiplyByChoices r (nI (m + t)) (nI t) u = some (wr u r (v * ch (m + t) t)) := by
  have big : ∀ i, i ≤ t → v * ch (m + i) i < 1000000000 ^ 8 := fun i hi => Nat.lt_of_le_of_lt (hb i hi) (by decide)
  have key : gLp M_Wide_multiplyByChoices_L2 (r, nI (m + t), nI t, nI (0 + 1), wr u r (v * ch (m + 0) 0)) = some (wr u r (v * ch (m + t) t)) := by
    refine lp_to (S := fun i => (r, nI (m + t), nI t, nI (i + 1), wr u r (v * ch (m + i) i))) (k := 0) (N := t) (Nat.zero_le _) (fun i _ hi => ?_) ?_
    · show M_Wide_multiplyByChoices_b2 r (nI (m + t)) (nI t) (nI (i + 1)) (wr u r (v * ch (m + i) i)) = some (Sum.inl (r, nI (m + t), nI t, nI (i + 1 + 1), wr u r (v * ch (m + (i + 1)) (i + 1))))
      have e1 : nI (m + t) - nI t + nI (i + 1) = nI (m + (i + 1)) := by
        rw [pk_sub (by omega), qi_add]
        congr 1
        omega
      have hbi := hb i (by omega)
      have hbig : v * ch (m + i) i * (m + (i + 1)) < 1000000000 ^ 8 := by
        have h1 : v * ch (m + i) i * (m + (i + 1)) ≤ 2 ^ 200 * 200 := Nat.mul_le_mul hbi (by omega)
        exact Nat.lt_of_le_of_lt h1 (by decide)
      unfold M_Wide_multiplyByChoices_b2
      rw [if_neg (by rw [qi_lt (by omega) (by omega)]; omega), e1, p_multiply hk hl (wr_v (big i (by omega))) (by omega), Option.bind_some, wr_wr, p_divide hk hl (wr_v hbig) (by omega) (by omega), Option.bind_some, wr_wr, ch_mc]
      show some (Sum.inl (r, nI (m + t), nI t, nI (i + 1) + nI 1, _)) = _
      rw [qi_add]
    · show M_Wide_multiplyByChoices_b2 r (nI (m + t)) (nI t) (nI (t + 1)) (wr u r (v * ch (m + t) t)) = _
      unfold M_Wide_multiplyByChoices_b2
      rw [if_pos ((qi_lt (by omega) (by omega)).mpr (by omega))]
  have e0 : (r, nI (m + t), nI t, (1 : Int32), u) = (r, nI (m + t), nI t, nI (0 + 1), wr u r (v * ch (m + 0) 0)) := by
    rw [ch_0, Nat.mul_one, wr_0 hv]
    rfl
  unfold M_Wide_multiplyByChoices
  rw [e0, key]
  rfl
