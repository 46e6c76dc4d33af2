/-! The model's print. -/
def FMp (u w : gSt) : Prop := (∀ a j, a ≠ 42 ∨ (j ≠ 28 ∧ j ≠ 39) → w.1 a j = u.1 a j) ∧ w.2.1 = u.2.1 ∧ (∀ a, a ≠ 55 → a ≠ 56 → a ≠ 64 → w.2.2.1 a = u.2.2.1 a) ∧ w.2.2.2 = u.2.2.2
theorem FMp_t {u v w : gSt} (h : FMp u v) (k : FMp v w) : FMp u w := ⟨fun a j e => by rw [k.1 a j e, h.1 a j e], by rw [k.2.1, h.2.1], fun a e f g => by rw [k.2.2.1 a e f g, h.2.2.1 a e f g], by rw [k.2.2.2, h.2.2.2]⟩
theorem FMp_X {P : Nat → Prop} {u w : gSt} (h : FX P u w) : FMp u w := ⟨fun a j e => h.1 a j (by omega), h.2.1, fun a e f _ => h.2.2.1 a e f, h.2.2.2.1⟩
theorem FMp_P {u w : gSt} (h : FPr u w) : FMp u w := ⟨fun a j e => h.1 a j (by omega), h.2.1, h.2.2.1, h.2.2.2.1⟩
theorem FMp_39 {u : gSt} {x : Int32} : FMp u (gsF u 42 39 x) := ⟨fun a j e => gF_o (by omega), rfl, fun _ _ _ _ => rfl, rfl⟩
theorem r_put3 {v : gSt} {m x c : Nat} (h39 : v.1 42 39 = nI m) (hm : m < 400) (hx : Rs v 1 x) : ∃ w, M_Model_put (nI c) v = some w ∧ FPr v w ∧ w.1 42 39 = nI (m + 1) ∧ w.2.2.1 64 m = nI c ∧ (∀ i, i < m → w.2.2.1 64 i = v.2.2.1 64 i) ∧ Rs w 1 x := by
  refine ⟨gsF (gsR v 64 (upd (v.2.2.1 64) m (nI c))) 42 39 (nI (m + 1)), ?_, FPr_t FPr_R FPr_F, gF_a, ?_, fun i hi => ?_, Rs_R (by decide) (by decide) hx⟩
  · unfold M_Model_put
    rw [h39, gc_t (qi_in (n := gLen 64) (by omega) (show m < 400 from hm)), qi_ix (by omega), gsA_R, Option.bind_some]
    show some (gsF (gsR v 64 (upd (v.2.2.1 64) m (nI c))) 42 39 (v.1 42 39 + nI 1)) = _
    rw [h39, qi_add]
  · show (gsR v 64 (upd (v.2.2.1 64) m (nI c))).2.2.1 64 m = _
    rw [gsR_a, pk_us]
  · show (gsR v 64 (upd (v.2.2.1 64) m (nI c))).2.2.1 64 i = _
    rw [gsR_a, pk_un (by omega)]
theorem Rs_one {u : gSt} {x v : Nat} (h : Rs u x v) : ∃ m, u.2.2.1 56 x = nI m ∧ m ≤ 48 ∧ (v = 1 ↔ m = 1 ∧ v % 32768 = 1) := by
  obtain ⟨m, ⟨m1, m2, m3, m4⟩, m5⟩ := h
  refine ⟨m, m2, m1, ?_, ?_⟩
  · intro e
    subst e
    refine ⟨?_, rfl⟩
    rcases m5 with h | h
    · rw [h] at m3
      omega
    · by_cases c : m - 1 = 0
      · have : m ≠ 0 := fun e => by
          rw [e] at m3
          omega
        omega
      · have k : 32768 ^ 1 ≤ 32768 ^ (m - 1) := Nat.pow_le_pow_right (by decide) (by omega)
        exact absurd (Nat.le_trans k h) (by decide)
  · intro e
    rw [e.1] at m3
    omega
theorem say_k {X c1 : Nat} (hX1 : 10 ^ (c1 - 1) ≤ X) : ∀ k, k < c1 → k < 1 ∨ 10 ^ k ≤ X := fun k hk => by
  by_cases c : k < 1
  · exact Or.inl c
  · exact Or.inr (Nat.le_trans (Nat.pow_le_pow_right (by decide) (by omega)) hX1)
theorem wq_0 {V r : Nat} : wq V 0 r = 48 + V / 10 ^ r % 10 := by
  unfold wq
  rw [if_pos (Or.inl rfl)]
theorem dot_0 {c : Nat} : dot 0 c = 0 := by
  unfold dot
  rw [if_neg (by omega)]
set_option maxHeartbeats 1000000 in
theorem r_just {t : gSt} {a b c1 c2 : Nat} (h5 : Rs t 5 a) (h6 : Rs t 6 b) (h0 : 0 < a) (hab : a ≤ b) (ha6 : a < 2 ^ 600) (hb6 : b < 2 ^ 600) (h39 : t.1 42 39 = nI 0) (h1 : 1 ≤ c1) (h2 : 1 ≤ c2) (hX1 : 10 ^ (c1 - 1) ≤ a / Nat.gcd a b) (hX2 : a / Nat.gcd a b < 10 ^ c1) (hY1 : 10 ^ (c2 - 1) ≤ b / Nat.gcd a b) (hY2 : b / Nat.gcd a b < 10 ^ c2) (hcc : c1 + 1 + c2 ≤ 160) : ∃ w, ((M_Model_divisor t).bind fun q123 =>
      (M_Model_copyNumber (2 : Int32) (5 : Int32) q123).bind fun q129 =>
      (M_Model_quotient (1 : Int32) (2 : Int32) (3 : Int32) q129).bind fun q136 =>
      (M_Model_say (1 : Int32) (0 : Int32) q136).bind fun q142 =>
      (M_Model_copyNumber (2 : Int32) (6 : Int32) q142).bind fun q149 =>
      (M_Model_quotient (1 : Int32) (2 : Int32) (3 : Int32) q149).bind fun q156 =>
      gc (gIn (1 : Int32) (gLen 56)) <| if (q156.2.2.1 56 (gIx (1 : Int32))) = (1 : Int32) then
        ((M_Model_digit (1 : Int32) (0 : Int32) q156).bind fun q172 =>
        if q172.1 = (1 : Int32) then
          (M_Model_print_b191 q172.2)
        else
          (M_Model_print_b179 q172.2))
      else
        (M_Model_print_b179 q156)) = some (nI (jL (b / Nat.gcd a b) c1 c2), w) ∧ FMp t w ∧ w.1 42 39 = nI (jL (b / Nat.gcd a b) c1 c2) ∧ ∀ i, i < jL (b / Nat.gcd a b) c1 c2 → w.2.2.1 64 i = nI (jT (a / Nat.gcd a b) (b / Nat.gcd a b) c1 c2 i) := by
  have hg : 0 < Nat.gcd a b := Nat.gcd_pos_of_pos_left b h0
  have hg6 : Nat.gcd a b < 2 ^ 600 := Nat.lt_of_le_of_lt (Nat.gcd_le_left b h0) ha6
  obtain ⟨w1, e1, f1, g1⟩ := r_gcd ha6 hb6 h5 h6
  obtain ⟨w2, e2, f2, g2⟩ := r_copy (x := 2) (y := 5) (by decide) (by decide) (by decide) (f1.2.2.2.2 5 a (by decide) (by decide) h5)
  obtain ⟨w3, e3, f3, g3, k3⟩ := r_quot (x := 2) (y := 3) (z := 1) (by decide) (by decide) (by decide) (by decide) (by decide) (by decide) hg hg6 ha6 g2 (f2.2.2.2.2 3 _ (by decide) (by decide) g1)
  have l1 := low_1 h0 hab
  have l2 := low_ne (b := b) h0
  have q3 : w3.1 42 39 = nI 0 := by rw [f3.1 42 39 (by decide), f2.1 42 39 (by decide), f1.1 42 39 (by decide), h39]
  obtain ⟨w4, e4, f4, s4, p4, c4⟩ := r_say (l := 1) (pt := 0) (m0 := 0) (c := c1) k3 hX2 h1 h1 (say_k hX1) (by omega) (by decide) q3
  have r3 : Rs w4 3 (Nat.gcd a b) := f4.2.2.2.2 3 _ (by decide) (by decide) (f3.2.2.2.2 3 _ (by decide) (by decide) (f2.2.2.2.2 3 _ (by decide) (by decide) g1))
  have r6 : Rs w4 6 b := f4.2.2.2.2 6 _ (by decide) (by decide) (f3.2.2.2.2 6 _ (by decide) (by decide) (f2.2.2.2.2 6 _ (by decide) (by decide) (f1.2.2.2.2 6 _ (by decide) (by decide) h6)))
  obtain ⟨w5, e5, f5, g5⟩ := r_copy (x := 2) (y := 6) (by decide) (by decide) (by decide) r6
  obtain ⟨w6, e6, f6, g6, k6⟩ := r_quot (x := 2) (y := 3) (z := 1) (by decide) (by decide) (by decide) (by decide) (by decide) (by decide) hg hg6 hb6 g5 (f5.2.2.2.2 3 _ (by decide) (by decide) r3)
  have F6 : FMp t w6 := FMp_t (FMp_X f1) (FMp_t (FMp_X f2) (FMp_t (FMp_X f3) (FMp_t (FMp_P f4) (FMp_t (FMp_X f5) (FMp_X f6)))))
  have q6 : w6.1 42 39 = nI c1 := by
    rw [f6.1 42 39 (by decide), f5.1 42 39 (by decide), s4, dot_0, Nat.add_zero, Nat.zero_add]
  have ch6 : ∀ i, i < c1 → w6.2.2.1 64 i = nI (48 + a / Nat.gcd a b / 10 ^ (c1 - 1 - i) % 10) := fun i hi => by
    have := c4 i (by rw [dot_0]; omega)
    rw [Nat.zero_add, dot_0, Nat.add_zero, wq_0] at this
    rw [f6.2.2.1 64 (by decide) (by decide), f5.2.2.1 64 (by decide) (by decide), this]
  obtain ⟨m, m1, m2, m3⟩ := Rs_one k6
  have dg := r_digit (k := 0) (by decide) (by decide) k6
  generalize a / Nat.gcd a b = X at hX1 hX2 l1 l2 ch6 ⊢
  generalize b / Nat.gcd a b = Y at hY1 hY2 l1 l2 k6 m3 dg ⊢
  have e : ((M_Model_divisor t).bind fun q123 =>
      (M_Model_copyNumber (2 : Int32) (5 : Int32) q123).bind fun q129 =>
      (M_Model_quotient (1 : Int32) (2 : Int32) (3 : Int32) q129).bind fun q136 =>
      (M_Model_say (1 : Int32) (0 : Int32) q136).bind fun q142 =>
      (M_Model_copyNumber (2 : Int32) (6 : Int32) q142).bind fun q149 =>
      (M_Model_quotient (1 : Int32) (2 : Int32) (3 : Int32) q149).bind fun q156 =>
      gc (gIn (1 : Int32) (gLen 56)) <| if (q156.2.2.1 56 (gIx (1 : Int32))) = (1 : Int32) then
        ((M_Model_digit (1 : Int32) (0 : Int32) q156).bind fun q172 =>
        if q172.1 = (1 : Int32) then
          (M_Model_print_b191 q172.2)
        else
          (M_Model_print_b179 q172.2))
      else
        (M_Model_print_b179 q156)) = if Y = 1 then M_Model_print_b191 w6 else M_Model_print_b179 w6 := by
    rw [e1, Option.bind_some]
    show ((M_Model_copyNumber (nI 2) (nI 5) w1).bind _) = _
    rw [e2, Option.bind_some]
    show ((M_Model_quotient (nI 1) (nI 2) (nI 3) w2).bind _) = _
    rw [e3, Option.bind_some]
    show ((M_Model_say (nI 1) (nI 0) w3).bind _) = _
    rw [e4, Option.bind_some]
    show ((M_Model_copyNumber (nI 2) (nI 6) w4).bind _) = _
    rw [e5, Option.bind_some]
    show ((M_Model_quotient (nI 1) (nI 2) (nI 3) w5).bind _) = _
    rw [e6, Option.bind_some]
    show (gc (gIn (nI 1) (gLen 56)) <| if w6.2.2.1 56 1 = (1 : Int32) then ((M_Model_digit (nI 1) (nI 0) w6).bind fun q172 => if q172.1 = (1 : Int32) then (M_Model_print_b191 q172.2) else (M_Model_print_b179 q172.2)) else (M_Model_print_b179 w6)) = _
    rw [gc_t (qi_in (n := gLen 56) (by decide) (show 1 < 8 by decide)), m1, dg, Option.bind_some]
    show (if nI m = nI 1 then (if nI (Y / 32768 ^ 0 % 32768) = nI 1 then (M_Model_print_b191 w6) else (M_Model_print_b179 w6)) else (M_Model_print_b179 w6)) = _
    rw [Nat.pow_zero, Nat.div_one]
    by_cases cY : Y = 1
    · have := m3.mp cY
      rw [if_pos cY, if_pos (by rw [this.1]), if_pos (by rw [this.2])]
    · rw [if_neg cY]
      by_cases d1 : m = 1
      · have d2 : ¬ Y % 32768 = 1 := fun h => cY (m3.mpr ⟨d1, h⟩)
        rw [if_pos (by rw [d1]), if_neg (by rw [qi_eq (by omega) (by omega)]; exact d2)]
      · rw [if_neg (by rw [qi_eq (by omega) (by omega)]; exact d1)]
  rw [e]
  unfold jL
  by_cases cY : Y = 1
  · have cX := l1 cY
    obtain ⟨k1, k2⟩ := jT_0 (Y := Y) (c2 := c2) cX h1 hX1
    refine ⟨w6, ?_, F6, ?_, fun i hi => ?_⟩
    · rw [if_pos cY, if_pos cY]
      unfold M_Model_print_b191
      rw [q6, k1]
    · rw [if_pos cY, q6, k1]
    · rw [if_pos cY] at hi
      have : i = 0 := by omega
      subst this
      have q := ch6 0 (by omega)
      rw [k1, cX] at q
      rw [k2]
      exact q
  · obtain ⟨w7, e7, f7, q7, d7, p7, k7⟩ := r_put3 (c := 47) q6 (by omega) k6
    obtain ⟨w8, e8, f8, s8, p8, c8⟩ := r_say (l := 1) (pt := 0) (m0 := c1 + 1) (c := c2) k7 hY2 h2 h2 (say_k hY1) (by omega) (by decide) q7
    have q8 : w8.1 42 39 = nI (c1 + 1 + c2) := by
      rw [s8, dot_0]
      rfl
    refine ⟨w8, ?_, FMp_t F6 (FMp_t (FMp_P f7) (FMp_P f8)), ?_, fun i hi => ?_⟩
    · rw [if_neg cY, if_neg cY]
      unfold M_Model_print_b179
      show ((M_Model_put (nI 47) w6).bind _) = _
      rw [e7, Option.bind_some]
      show ((M_Model_say (nI 1) (nI 0) w7).bind _) = _
      rw [e8, Option.bind_some]
      unfold M_Model_print_b191
      rw [q8]
    · rw [if_neg cY, q8]
    · rw [if_neg cY] at hi
      unfold jT
      by_cases d1 : i < c1
      · rw [if_pos d1, p8 i (by omega), p7 i d1, ch6 i d1]
      · rw [if_neg d1]
        by_cases d2 : i = c1
        · rw [if_pos d2, p8 i (by omega), d2, d7]
        · have := c8 (i - (c1 + 1)) (by rw [dot_0]; omega)
          rw [dot_0, wq_0, show c1 + 1 + (i - (c1 + 1)) = i by omega] at this
          rw [if_neg d2, this]
          rfl
