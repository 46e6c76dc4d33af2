/-! Wide numbers: eight elements of base 10^9. -/
/-- one step of a product, with what comes in below -/
theorem mstep {B P v c m : Nat} (hP : 0 < P) : (v % P * c + m) / P + (v / P % B) * c = (v % (P * B) * c + m) / P ∧ ((v % (P * B) * c + m) / P) % B = (v * c + m) / P % B ∧ ((v % (P * B) * c + m) / P) / B = (v % (P * B) * c + m) / (P * B) := by
  refine ⟨?_, ?_, Nat.div_div_eq_div_mul ..⟩
  · rw [Nat.mod_mul, Nat.add_mul, Nat.mul_assoc, Nat.add_right_comm, Nat.add_mul_div_left _ _ hP]
  · have e : v * c + m = (v % (P * B) * c + m) + P * (B * (v / (P * B) * c)) := by
      have e1 : v * c = (v % (P * B) + P * B * (v / (P * B))) * c := by rw [Nat.mod_add_div]
      rw [e1, Nat.add_mul, Nat.mul_assoc, Nat.mul_assoc]
      omega
    rw [e, Nat.add_mul_div_left _ _ hP, Nat.add_mul_mod_self_left]
/-- one step of a sum -/
theorem astep {B P v w c : Nat} (hP : 0 < P) : (v % P + w % P * c) / P + (v / P % B + (w / P % B) * c) = (v % (P * B) + w % (P * B) * c) / P ∧ ((v % (P * B) + w % (P * B) * c) / P) % B = (v + w * c) / P % B ∧ ((v % (P * B) + w % (P * B) * c) / P) / B = (v % (P * B) + w % (P * B) * c) / (P * B) := by
  refine ⟨?_, ?_, Nat.div_div_eq_div_mul ..⟩
  · have e : v % (P * B) + w % (P * B) * c = (v % P + w % P * c) + P * (v / P % B + w / P % B * c) := by
      rw [Nat.mod_mul, Nat.mod_mul, Nat.add_mul, Nat.mul_add, Nat.mul_assoc]
      omega
    rw [e, Nat.add_mul_div_left _ _ hP]
  · have e : v + w * c = (v % (P * B) + w % (P * B) * c) + P * (B * (v / (P * B) + w / (P * B) * c)) := by
      have e1 : w * c = (w % (P * B) + P * B * (w / (P * B))) * c := by rw [Nat.mod_add_div]
      have e2 := Nat.mod_add_div v (P * B)
      have e3 : P * (B * (v / (P * B) + w / (P * B) * c)) = P * B * (v / (P * B)) + P * B * (w / (P * B)) * c := by
        rw [← Nat.mul_assoc, Nat.mul_add, Nat.mul_assoc (P * B)]
      rw [e1, Nat.add_mul, e3]
      omega
    rw [e, Nat.add_mul_div_left _ _ hP, Nat.add_mul_mod_self_left]
/-- one step of a division -/
theorem dstep {B P v c : Nat} (hB : 0 < B) (hc : 0 < c) : (v / (P * B) % c * B + v / P % B) / c = v / c / P % B ∧ (v / (P * B) % c * B + v / P % B) % c = v / P % c := by
  have e0 : v / (P * B) = v / P / B := (Nat.div_div_eq_div_mul ..).symm
  rw [e0]
  have e1 : v / P = v / P % B + B * (v / P / B) := (Nat.mod_add_div _ _).symm
  have e2 : v / c / P = v / P / c := by rw [Nat.div_div_eq_div_mul, Nat.div_div_eq_div_mul, Nat.mul_comm]
  rw [e2]
  generalize v / P = q at e1
  have hd : q % B < B := Nat.mod_lt _ hB
  have e3 : q / B = q / B % c + c * (q / B / c) := (Nat.mod_add_div _ _).symm
  have hr : q / B % c < c := Nat.mod_lt _ hc
  generalize q / B % c = r at *
  generalize q / B / c = s at *
  have e4 : q = (r * B + q % B) + c * (B * s) := by
    have : B * (q / B) = B * r + B * (c * s) := by rw [e3, Nat.mul_add]
    have h2 : B * (c * s) = c * (B * s) := by rw [Nat.mul_left_comm]
    have h3 : r * B = B * r := Nat.mul_comm ..
    omega
  have hlt : (r * B + q % B) / c < B := by
    rw [Nat.div_lt_iff_lt_mul hc]
    have h1 : (r + 1) * B ≤ c * B := Nat.mul_le_mul_right B hr
    have h2 : (r + 1) * B = r * B + B := by rw [Nat.add_mul, Nat.one_mul]
    have h3 : B * c = c * B := Nat.mul_comm ..
    omega
  constructor
  · rw [show q / c = (r * B + q % B) / c + B * s by
      have h9 := congrArg (fun z => z / c) e4
      rw [Nat.add_mul_div_left _ _ hc] at h9
      exact h9, Nat.add_mul_mod_self_left, Nat.mod_eq_of_lt hlt]
  · have h9 := congrArg (fun z => z % c) e4
    rw [Nat.add_mul_mod_self_left] at h9
    exact h9.symm
/-- the array r is the number v -/
def Wv (u : gSt) (r v : Nat) : Prop := v < 1000000000 ^ 8 ∧ ∀ i, i < 8 → u.2.2.1 r i = nI (v / 1000000000 ^ i % 1000000000)
/-- the number v laid into r -/
def wr (u : gSt) (r v : Nat) : gSt := gsR u r (fun i => if i < 8 then nI (v / 1000000000 ^ i % 1000000000) else u.2.2.1 r i)
theorem wr_v {u : gSt} {r v : Nat} (h : v < 1000000000 ^ 8) : Wv (wr u r v) r v := by
  refine ⟨h, fun i hi => ?_⟩
  unfold wr
  rw [gsR_a]
  exact if_pos hi
theorem wr_b {u : gSt} {r b v w : Nat} (h : b ≠ r) (hw : Wv u b w) : Wv (wr u r v) b w := by
  refine ⟨hw.1, fun i hi => ?_⟩
  unfold wr
  rw [gsR_b h]
  exact hw.2 i hi
theorem wr_wr {u : gSt} {r v w : Nat} : wr (wr u r v) r w = wr u r w := by
  unfold wr
  rw [gsR_R, gsR_a]
  refine congrArg (gsR u r) (funext fun i => ?_)
  by_cases h : i < 8
  · rw [if_pos h, if_pos h]
  · rw [if_neg h, if_neg h, if_neg h]
theorem wr_0 {u : gSt} {r v : Nat} (h : Wv u r v) : wr u r v = u := by
  unfold wr
  rw [gsR_0]
  funext i
  by_cases hi : i < 8
  · rw [if_pos hi, h.2 i hi]
  · rw [if_neg hi]
theorem wd_lt {v i : Nat} : v / 1000000000 ^ i % 1000000000 < 1000000000 := Nat.mod_lt _ (by decide)
theorem e9_pos (i : Nat) : 0 < 1000000000 ^ i := Nat.pow_pos (by decide)
theorem p_multiply {u : gSt} {r v c : Nat} (hk : gK r = 22) (hl : gLen r = 8) (hv : Wv u r v) (hc : c < 2147483648) : M_Wide_multiply r (nI c) u = some (wr u r (v * c)) := by
  have k1 : (gK r == 22) = true := by rw [hk]; rfl
  have e0 : (r, nI c, (0 : Int64), (0 : Int32), u) = (fun i => (r, nI c, lN ((v % 1000000000 ^ i * c + 0) / 1000000000 ^ i), nI i, gsR u r (fun k => if k < i then nI (v * c / 1000000000 ^ k % 1000000000) else u.2.2.1 r k))) 0 := by
    show _ = (r, nI c, lN ((v % 1000000000 ^ 0 * c + 0) / 1000000000 ^ 0), nI 0, gsR u r (fun k => if k < 0 then nI (v * c / 1000000000 ^ k % 1000000000) else u.2.2.1 r k))
    rw [gsR_0, Nat.pow_zero, Nat.mod_one, Nat.zero_mul]
    · rfl
    · funext k
      rw [if_neg (by omega)]
  unfold M_Wide_multiply
  rw [e0, lp_to (S := fun i => (r, nI c, lN ((v % 1000000000 ^ i * c + 0) / 1000000000 ^ i), nI i, gsR u r (fun k => if k < i then nI (v * c / 1000000000 ^ k % 1000000000) else u.2.2.1 r k))) (y := gsR u r (fun k => if k < 8 then nI (v * c / 1000000000 ^ k % 1000000000) else u.2.2.1 r k)) (k := 0) (N := 8) (Nat.zero_le _) (fun i _ hi => ?_) rfl]
  · rfl
  · show M_Wide_multiply_b5 r (nI c) (lN ((v % 1000000000 ^ i * c + 0) / 1000000000 ^ i)) (nI i) (gsR u r (fun k => if k < i then nI (v * c / 1000000000 ^ k % 1000000000) else u.2.2.1 r k)) = some (Sum.inl (r, nI c, lN ((v % 1000000000 ^ (i + 1) * c + 0) / 1000000000 ^ (i + 1)), nI (i + 1), gsR u r (fun k => if k < i + 1 then nI (v * c / 1000000000 ^ k % 1000000000) else u.2.2.1 r k)))
    obtain ⟨m1, m2, m3⟩ := mstep (B := 1000000000) (P := 1000000000 ^ i) (v := v) (c := c) (m := 0) (e9_pos i)
    have hcar : (v % 1000000000 ^ i * c + 0) / 1000000000 ^ i < 2147483648 := by
      rw [Nat.div_lt_iff_lt_mul (e9_pos i)]
      have h1 : v % 1000000000 ^ i < 1000000000 ^ i := Nat.mod_lt _ (e9_pos i)
      have h2 : v % 1000000000 ^ i * c ≤ 1000000000 ^ i * c := Nat.mul_le_mul_right c (Nat.le_of_lt h1)
      have h3 : 1000000000 ^ i * c < 1000000000 ^ i * 2147483648 := Nat.mul_lt_mul_of_pos_left hc (e9_pos i)
      rw [Nat.mul_comm 2147483648]
      omega
    have hd := wd_lt (v := v) (i := i)
    have hdc : v / 1000000000 ^ i % 1000000000 * c ≤ 999999999 * 2147483647 := Nat.mul_le_mul (by omega) (by omega)
    have w1 : (gsR u r (fun k => if k < i then nI (v * c / 1000000000 ^ k % 1000000000) else u.2.2.1 r k)).2.2.1 r i = nI (v / 1000000000 ^ i % 1000000000) := by
      rw [gsR_a]
      show (if i < i then _ else u.2.2.1 r i) = _
      rw [if_neg (by omega), hv.2 i hi]
    have hB : (1000000000 : Int64) = lN 1000000000 := rfl
    have hb : (v % (1000000000 ^ i * 1000000000) * c + 0) / 1000000000 ^ i < 2 ^ 63 := by
      rw [← m1]
      omega
    unfold M_Wide_multiply_b5
    rw [if_neg (show ¬ (8 : Int32) ≤ nI i by rw [show (8 : Int32) = nI 8 from rfl, qi_le (by omega) (by omega)]; omega), gc_t k1, gc_t (qi_in (by omega) (by omega)), gc_t k1, gc_t (qi_in (by omega) (by omega)), qi_ix (by omega), w1, nI_l (by omega), nI_l (by omega), lN_mul, lN_add, m1, hB, pk_lRem hb (by decide) (by decide), pk_lDiv hb (by decide) (by decide), lN_i, m2, m3, Option.bind_some, gsA_R, gsR_R, gsR_a]
    show some (Sum.inl (r, nI c, _, nI i + nI 1, _)) = _
    rw [qi_add, Nat.pow_succ]
    refine congrArg (fun f => some (Sum.inl (r, nI c, lN ((v % (1000000000 ^ i * 1000000000) * c + 0) / (1000000000 ^ i * 1000000000)), nI (i + 1), gsR u r f))) ?_
    funext k
    show (if k = i then nI ((v * c + 0) / 1000000000 ^ i % 1000000000) else (if k < i then nI (v * c / 1000000000 ^ k % 1000000000) else u.2.2.1 r k)) = _
    by_cases h1 : k = i
    · rw [if_pos h1, if_pos (by omega), h1]
      rfl
    · rw [if_neg h1]
      by_cases h2 : k < i
      · rw [if_pos h2, if_pos (by omega)]
      · rw [if_neg h2, if_neg (by omega)]
