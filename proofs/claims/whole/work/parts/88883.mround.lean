/-! The model's print with places; the model's print as a whole. -/
theorem r_up {w : gSt} {V q : Nat} (h1 : Rs w 1 V) (hV : V < 10 ^ (q + 1)) (hq : q ≤ 40) (h39 : w.1 42 39 = nI 0) : ∃ z, M_Model_print_b275 (nI q) w = some (nI (txL q), z) ∧ FMp w z ∧ z.1 42 39 = nI (txL q) ∧ ∀ i, i < txL q → z.2.2.1 64 i = nI (tx V q i) := by
  have hL : q + 1 + dot q (q + 1) = txL q := by
    unfold dot txL
    by_cases c : q = 0
    · rw [if_neg (by omega), if_pos c]
      omega
    · rw [if_pos (by omega), if_neg c]
  obtain ⟨z, e, f, s, p, c⟩ := r_say (l := q + 1) (pt := q) (m0 := 0) (c := q + 1) h1 hV (Nat.le_refl _) (by omega) (fun k hk => Or.inl hk) (by omega) (by omega) h39
  rw [hL, Nat.zero_add] at s
  refine ⟨z, ?_, FMp_P f, s, fun i hi => ?_⟩
  · unfold M_Model_print_b275
    rw [show (1 : Int32) = nI 1 from rfl, qi_add, e, Option.bind_some, s]
  · have := c i (by rw [hL]; exact hi)
    rw [Nat.zero_add, hL, (wq_tx hi).2] at this
    exact this
set_option maxHeartbeats 1000000 in
theorem r_round {t : gSt} {a b q : Nat} (h5 : Rs t 5 a) (h6 : Rs t 6 b) (h0 : 0 < b) (hab : a ≤ b) (hbb : b ≤ 2 ^ 200 * 200) (h39 : t.1 42 39 = nI 0) (hq : q ≤ 40) : ∃ w, ((gLp M_Model_print_L199 (nI q, (0 : Int32), t)).bind fun y199 =>
      (M_Model_quotient (1 : Int32) (5 : Int32) (6 : Int32) y199.2).bind fun q225 =>
      (M_Model_grow (5 : Int32) (2 : Int64) (0 : Int64) q225).bind fun q234 =>
      (M_Model_order (5 : Int32) (6 : Int32) q234).bind fun q241 =>
      if (0 : Int32) < q241.1 then
        (M_Model_print_b268 y199.1 q241.2)
      else
        (if q241.1 = (0 : Int32) then
          ((M_Model_digit (1 : Int32) (0 : Int32) q241.2).bind fun q259 =>
          if (q259.1 &&& (1 : Int32)) = (1 : Int32) then
            (M_Model_print_b268 y199.1 q259.2)
          else
            (M_Model_print_b275 y199.1 q259.2))
        else
          (M_Model_print_b275 y199.1 q241.2))) = some (nI (txL q), w) ∧ FMp t w ∧ w.1 42 39 = nI (txL q) ∧ ∀ i, i < txL q → w.2.2.1 64 i = nI (tx (rnd a b q) q i) := by
  have p10 : ∀ k, k ≤ 41 → a * 10 ^ k ≤ 2 ^ 200 * 200 * 10 ^ 41 := fun k hk => Nat.mul_le_mul (Nat.le_trans hab hbb) (Nat.pow_le_pow_right (by decide) hk)
  have b48 : 2 ^ 200 * 200 * 10 ^ 41 < 32768 ^ 48 := by decide
  have b600 : 2 ^ 200 * 200 * 10 ^ 41 < 2 ^ 600 := Nat.lt_of_lt_of_le (show 2 ^ 200 * 200 * 10 ^ 41 < 2 ^ 250 * 2 ^ 250 by decide) (by rw [← Nat.pow_add]; exact Nat.pow_le_pow_right (by decide) (by decide))
  obtain ⟨y, e1, y1, f1, g5, g6, g39⟩ := lp_rel (f := M_Model_print_L199) (Po := fun y : Int32 × gSt => y.1 = nI q ∧ FMp t y.2 ∧ Rs y.2 5 (a * 10 ^ q) ∧ Rs y.2 6 b ∧ y.2.1 42 39 = nI 0) (fun k (x : Int32 × Int32 × gSt) => x.1 = nI q ∧ x.2.1 = nI k ∧ FMp t x.2.2 ∧ Rs x.2.2 5 (a * 10 ^ k) ∧ Rs x.2.2 6 b ∧ x.2.2.1 42 39 = nI 0) q 0 q (by omega) (fun k x _ hk hx => by
    obtain ⟨x1, x2, y⟩ := x
    obtain ⟨rfl, rfl, fy, y5, y6, y39⟩ := hx
    have y5' : Rs y 5 (a * 10 ^ k) := y5
    obtain ⟨w, ew, fw, w5⟩ := r_grow (x := 5) (c := 10) (m := 0) (by decide) y5' (by decide) (by decide) (Nat.lt_of_le_of_lt (show a * 10 ^ k * 10 + 0 ≤ _ by rw [Nat.add_zero, Nat.mul_assoc, ← Nat.pow_succ]; exact p10 (k + 1) (by omega)) b48)
    refine ⟨(nI q, nI (k + 1), w), ?_, rfl, rfl, FMp_t fy (FMp_X fw), by rw [Nat.pow_succ, ← Nat.mul_assoc]; exact w5, fw.2.2.2.2 6 _ (by decide) (by decide) y6, ?_⟩
    · show M_Model_print_b199 (nI q) (nI k) y = _
      unfold M_Model_print_b199
      rw [if_neg (by rw [qi_le (by omega) (by omega)]; omega)]
      show ((M_Model_grow (nI 5) (lN 10) (lN 0) y).bind fun q211 => some (Sum.inl (nI q, nI k + nI 1, q211))) = _
      rw [ew, Option.bind_some, qi_add]
    · show w.1 42 39 = nI 0
      rw [fw.1 42 39 (by decide)]
      exact y39) (fun x hx => by
    obtain ⟨x1, x2, y⟩ := x
    obtain ⟨rfl, rfl, fy, y5, y6, y39⟩ := hx
    refine ⟨(nI q, y), ?_, rfl, fy, y5, y6, y39⟩
    show M_Model_print_b199 (nI q) (nI q) y = _
    unfold M_Model_print_b199
    rw [if_pos ((qi_le (by omega) (by omega)).mpr (Nat.le_refl _))]) (nI q, nI 0, t) ⟨rfl, rfl, FMp_X (P := fun _ => False) FX_0, by rw [Nat.pow_zero, Nat.mul_one]; exact h5, h6, h39⟩
  obtain ⟨y1', y⟩ := y
  have y1'' : y1' = nI q := y1
  subst y1''
  have hb6 : b < 2 ^ 600 := Nat.lt_of_le_of_lt hbb (Nat.lt_of_le_of_lt (by decide) b600)
  obtain ⟨w2, e2, f2, r5, r1⟩ := r_quot (u := y) (x := 5) (y := 6) (z := 1) (by decide) (by decide) (by decide) (by decide) (by decide) (by decide) h0 hb6 (Nat.lt_of_le_of_lt (p10 q (by omega)) b600) g5 g6
  have r6 := f2.2.2.2.2 6 _ (by decide) (by decide) g6
  have hr : a * 10 ^ q % b < b := Nat.mod_lt _ h0
  obtain ⟨w3, e3, f3, s5⟩ := r_grow (x := 5) (c := 2) (m := 0) (by decide) r5 (by decide) (by decide) (Nat.lt_of_le_of_lt (show a * 10 ^ q % b * 2 + 0 ≤ 2 ^ 200 * 200 * 2 by omega) (by decide))
  rw [Nat.add_zero] at s5
  have s6 := f3.2.2.2.2 6 _ (by decide) (by decide) r6
  have s1 := f3.2.2.2.2 1 _ (by decide) (by decide) r1
  have o := r_order (x := 5) (y := 6) (by decide) (by decide) s5 s6
  have dg := r_digit (k := 0) (by decide) (by decide) s1
  have q3 : w3.1 42 39 = nI 0 := by
    rw [f3.1 42 39 (by decide), f2.1 42 39 (by decide)]
    exact g39
  have F3 : FMp t w3 := FMp_t f1 (FMp_t (FMp_X f2) (FMp_X f3))
  have hlt := rnd_lt (q := q) h0 hab
  have e : ((gLp M_Model_print_L199 (nI q, (0 : Int32), t)).bind fun y199 =>
      (M_Model_quotient (1 : Int32) (5 : Int32) (6 : Int32) y199.2).bind fun q225 =>
      (M_Model_grow (5 : Int32) (2 : Int64) (0 : Int64) q225).bind fun q234 =>
      (M_Model_order (5 : Int32) (6 : Int32) q234).bind fun q241 =>
      if (0 : Int32) < q241.1 then
        (M_Model_print_b268 y199.1 q241.2)
      else
        (if q241.1 = (0 : Int32) then
          ((M_Model_digit (1 : Int32) (0 : Int32) q241.2).bind fun q259 =>
          if (q259.1 &&& (1 : Int32)) = (1 : Int32) then
            (M_Model_print_b268 y199.1 q259.2)
          else
            (M_Model_print_b275 y199.1 q259.2))
        else
          (M_Model_print_b275 y199.1 q241.2))) = if upV a b q = true then M_Model_print_b268 (nI q) w3 else M_Model_print_b275 (nI q) w3 := by
    show ((gLp M_Model_print_L199 (nI q, nI 0, t)).bind _) = _
    rw [e1, Option.bind_some]
    show ((M_Model_quotient (nI 1) (nI 5) (nI 6) y).bind _) = _
    rw [e2, Option.bind_some]
    show ((M_Model_grow (nI 5) (lN 2) (lN 0) w2).bind _) = _
    rw [e3, Option.bind_some]
    show ((M_Model_order (nI 5) (nI 6) w3).bind _) = _
    rw [o, Option.bind_some]
    show (if (0 : Int32) < cmp (a * 10 ^ q % b * 2) b then (M_Model_print_b268 (nI q) w3) else (if cmp (a * 10 ^ q % b * 2) b = (0 : Int32) then ((M_Model_digit (nI 1) (nI 0) w3).bind fun q259 => if (q259.1 &&& (1 : Int32)) = (1 : Int32) then (M_Model_print_b268 (nI q) q259.2) else (M_Model_print_b275 (nI q) q259.2)) else (M_Model_print_b275 (nI q) w3))) = _
    rw [dg, Option.bind_some]
    show (if (0 : Int32) < cmp (a * 10 ^ q % b * 2) b then (M_Model_print_b268 (nI q) w3) else (if cmp (a * 10 ^ q % b * 2) b = (0 : Int32) then (if (nI (a * 10 ^ q / b / 32768 ^ 0 % 32768) &&& (1 : Int32)) = nI 1 then (M_Model_print_b268 (nI q) w3) else (M_Model_print_b275 (nI q) w3)) else (M_Model_print_b275 (nI q) w3))) = _
    have an : ∀ V : Nat, (nI (V % 32768) &&& (1 : Int32)) = nI (V % 32768 % 2) := fun V => pk_andN (show V % 32768 < 2 ^ 32 by omega) 1 (by decide)
    rw [Nat.pow_zero, Nat.div_one, an]
    unfold upV
    generalize a * 10 ^ q / b = V
    generalize a * 10 ^ q % b * 2 = R
    by_cases c1 : b < R
    · rw [if_pos (cmp_pos.mpr c1), if_pos (decide_eq_true (Or.inl c1))]
    · rw [if_neg (show ¬ (0 : Int32) < cmp R b by rw [cmp_pos]; exact c1)]
      by_cases c2 : R = b
      · rw [if_pos (cmp_eq.mpr c2)]
        by_cases c3 : V % 2 = 1
        · rw [if_pos ((qi_eq (by omega) (by omega)).mpr (by omega)), if_pos (decide_eq_true (Or.inr ⟨c2, c3⟩))]
        · rw [if_neg (by rw [qi_eq (by omega) (by omega)]; omega), if_neg (show ¬ decide (b < R ∨ (R = b ∧ V % 2 = 1)) = true by rw [decide_eq_true_iff]; omega)]
      · rw [if_neg (show ¬ cmp R b = (0 : Int32) by rw [cmp_eq]; exact c2), if_neg (show ¬ decide (b < R ∨ (R = b ∧ V % 2 = 1)) = true by rw [decide_eq_true_iff]; omega)]
  rw [e]
  unfold rnd at hlt ⊢
  by_cases c : upV a b q = true
  · rw [if_pos c] at hlt
    obtain ⟨w4, e4, f4, s4⟩ := r_grow (x := 1) (c := 1) (m := 1) (by decide) s1 (by decide) (by decide) (Nat.lt_of_le_of_lt (show a * 10 ^ q / b * 1 + 1 ≤ 2 ^ 200 * 200 * 10 ^ 41 + 1 by rw [Nat.mul_one]; exact Nat.succ_le_succ (Nat.le_trans (Nat.div_le_self _ _) (p10 q (by omega)))) (by decide))
    rw [Nat.mul_one] at s4
    obtain ⟨z, ez, fz, z39, zt⟩ := r_up s4 hlt hq (by rw [f4.1 42 39 (by decide)]; exact q3)
    refine ⟨z, ?_, FMp_t F3 (FMp_t (FMp_X f4) fz), z39, ?_⟩
    · rw [if_pos c]
      unfold M_Model_print_b268
      show ((M_Model_grow (nI 1) (lN 1) (lN 1) w3).bind _) = _
      rw [e4, Option.bind_some, ez]
    · rw [if_pos c]
      exact zt
  · rw [if_neg c, Nat.add_zero] at hlt
    obtain ⟨z, ez, fz, z39, zt⟩ := r_up s1 hlt hq q3
    refine ⟨z, ?_, FMp_t F3 fz, z39, ?_⟩
    · rw [if_neg c, ez]
    · rw [if_neg c]
      exact zt
