/-! The model's quotient and divisor. -/
theorem r_digit {u : gSt} {x v k : Nat} (hx : x < 8) (hk : k < 48) (h : Rs u x v) : M_Model_digit (nI x) (nI k) u = some (nI (v / 32768 ^ k % 32768), u) := by
  obtain ⟨m, h1, -⟩ := h
  have := q_digitR (u := u) hx hk h1
  rw [rg_0] at this
  exact this
theorem sm15 : ∀ j, j < 15 → ((nI j &&& (31 : Int32)).toBitVec.smod 32).toNat = j := by decide
theorem bit_at {v k : Nat} : v / 32768 ^ (k / 15) % 32768 / 2 ^ (k % 15) % 2 = v / 2 ^ k % 2 := by
  have hr : k % 15 < 15 := Nat.mod_lt _ (by decide)
  have e1 : (32768 : Nat) = 2 ^ (k % 15) * 2 ^ (15 - k % 15) := by
    rw [← Nat.pow_add, show k % 15 + (15 - k % 15) = 15 by omega]
  have e2 : v / 32768 ^ (k / 15) % 32768 / 2 ^ (k % 15) = v / 32768 ^ (k / 15) / 2 ^ (k % 15) % 2 ^ (15 - k % 15) := by
    have := Nat.mod_mul_right_div_self (v / 32768 ^ (k / 15)) (2 ^ (k % 15)) (2 ^ (15 - k % 15))
    rw [← e1] at this
    exact this
  have e3 : 32768 ^ (k / 15) * 2 ^ (k % 15) = 2 ^ k := by
    rw [show (32768 : Nat) = 2 ^ 15 from rfl, ← Nat.pow_mul, ← Nat.pow_add, show 15 * (k / 15) + k % 15 = k by omega]
  rw [e2, Nat.div_div_eq_div_mul, e3]
  refine Nat.mod_mod_of_dvd _ ?_
  rw [show 15 - k % 15 = (14 - k % 15) + 1 by omega, Nat.pow_succ]
  exact Nat.dvd_mul_left _ _
theorem i_bit {v k : Nat} (hk : k < 720) : (nI (v / 32768 ^ (k / 15) % 32768) >>> ((nI k - nI k / (15 : Int32) * (15 : Int32)) &&& (31 : Int32)) &&& (1 : Int32)).toInt64 = lN (v / 2 ^ k % 2) := by
  have hb : v / 32768 ^ (k / 15) % 32768 < 32768 := Nat.mod_lt _ (by decide)
  have hd : v / 32768 ^ (k / 15) % 32768 / 2 ^ (k % 15) ≤ v / 32768 ^ (k / 15) % 32768 := Nat.div_le_self _ _
  rw [show (15 : Int32) = nI 15 from rfl, pk_rem (by omega) (by decide) (by decide), pk_shrN (by omega) _ (k % 15) (sm15 _ (Nat.mod_lt _ (by decide))), pk_andN (k := 1) (by omega) (by decide), nI_l (by omega), show 2 ^ 1 = 2 from rfl, bit_at]
theorem qstep {V w b : Nat} (hw : 0 < w) (hb : b ≤ 1) : (V % w * 2 + b < w → (2 * V + b) % w = V % w * 2 + b ∧ (2 * V + b) / w = V / w * 2 + 0) ∧ (w ≤ V % w * 2 + b → (2 * V + b) % w = V % w * 2 + b - w ∧ (2 * V + b) / w = V / w * 2 + 1) := by
  have e := Nat.mod_add_div V w
  have hlt := Nat.mod_lt V hw
  have e2 : w * (V / w * 2) = w * (V / w) * 2 := (Nat.mul_assoc ..).symm
  refine ⟨fun h => ?_, fun h => ?_⟩
  · have := (Nat.div_mod_unique (a := 2 * V + b) (b := w) (d := V / w * 2 + 0) (c := V % w * 2 + b) hw).mpr ⟨by rw [Nat.add_zero, e2]; omega, h⟩
    exact ⟨this.2, this.1⟩
  · have e3 : w * (V / w * 2 + 1) = w * (V / w) * 2 + w := by rw [Nat.mul_add, e2, Nat.mul_one]
    have := (Nat.div_mod_unique (a := 2 * V + b) (b := w) (d := V / w * 2 + 1) (c := V % w * 2 + b - w) hw).mpr ⟨by rw [e3]; omega, by omega⟩
    exact ⟨this.2, this.1⟩
theorem half_up {v k : Nat} : v / 2 ^ k = 2 * (v / 2 ^ (k + 1)) + v / 2 ^ k % 2 := by
  rw [Nat.pow_succ, ← Nat.div_div_eq_div_mul]
  omega
theorem big600 : (2 ^ 600) * 2 + 1 < 32768 ^ 48 := by
  have h1 : (32768 : Nat) ^ 48 = 2 ^ 600 * 2 ^ 120 := by
    rw [show (32768 : Nat) = 2 ^ 15 from rfl, ← Nat.pow_mul, ← Nat.pow_add]
  have h2 : 1 ≤ 2 ^ 600 := Nat.pow_pos (by decide)
  have h3 : 2 ^ 600 * 4 ≤ 2 ^ 600 * 2 ^ 120 := Nat.mul_le_mul (Nat.le_refl _) (by decide)
  rw [h1]
  omega
theorem r_quot1 {t : gSt} {x y z v w k : Nat} (hx : x < 7) (hy : y < 7) (hz : z < 7) (hxy : x ≠ y) (hxz : x ≠ z) (hyz : y ≠ z) (hk : k < 720) (hw : 0 < w) (hwb : w < 2 ^ 600) (hvb : v < 2 ^ 600) (h7 : Rs t 7 v) (h6 : Rs t y w) (h5 : Rs t x (v / 2 ^ (k + 1) % w)) (h4 : Rs t z (v / 2 ^ (k + 1) / w)) : ∃ s, M_Model_quotient_b34 (nI z) (nI x) (nI y) (nI k) t = some (.inl (nI z, nI x, nI y, nI k + (-1 : Int32), s)) ∧ FX (fun r => r = x ∨ r = z) t s ∧ Rs s x (v / 2 ^ k % w) ∧ Rs s z (v / 2 ^ k / w) := by
  have hb : v / 2 ^ k % 2 ≤ 1 := by omega
  have hm : v / 2 ^ (k + 1) % w < w := Nat.mod_lt _ hw
  have e0 := r_digit (u := t) (x := 7) (k := k / 15) (by decide) (by omega) h7
  have big := big600
  obtain ⟨s1, e1, f1, r1⟩ := r_grow (u := t) (x := x) (c := 2) (m := v / 2 ^ k % 2) (by omega) h5 (by decide) (by omega) (Nat.lt_of_le_of_lt (Nat.add_le_add (Nat.mul_le_mul (Nat.le_of_lt (Nat.lt_trans hm hwb)) (Nat.le_refl 2)) hb) big)
  have y1 : Rs s1 y w := f1.2.2.2.2 y _ (by omega) (by omega) h6
  have z1 : Rs s1 z _ := f1.2.2.2.2 z _ (by omega) (by omega) h4
  have e2 := r_order (u := s1) (x := x) (y := y) (by omega) (by omega) r1 y1
  have hq : v / 2 ^ (k + 1) / w ≤ 2 ^ 600 := Nat.le_trans (Nat.div_le_self _ _) (Nat.le_trans (Nat.div_le_self _ _) (Nat.le_of_lt hvb))
  have hun : M_Model_quotient_b34 (nI z) (nI x) (nI y) (nI k) t = if cmp (v / 2 ^ (k + 1) % w * 2 + v / 2 ^ k % 2) w < (0 : Int32) then M_Model_quotient_b81 (nI z) (nI x) (nI y) (nI k) (0 : Int32) s1 else M_Model_quotient_b81 (nI z) (nI x) (nI y) (nI k) (1 : Int32) s1 := by
    unfold M_Model_quotient_b34
    rw [if_neg (show ¬ nI k < (0 : Int32) by rw [show (0 : Int32) = nI 0 from rfl, qi_lt (by omega) (by omega)]; omega), show nI k / (15 : Int32) = nI (k / 15) from pk_div (by omega) (by decide) (by decide)]
    show ((M_Model_digit (nI 7) (nI (k / 15)) t).bind _) = _
    rw [e0, Option.bind_some]
    have hi := i_bit (v := v) hk
    rw [show nI k / (15 : Int32) = nI (k / 15) from pk_div (by omega) (by decide) (by decide)] at hi
    show ((M_Model_grow (nI x) (lN 2) (nI (v / 32768 ^ (k / 15) % 32768) >>> ((nI k - nI (k / 15) * (15 : Int32)) &&& (31 : Int32)) &&& (1 : Int32)).toInt64 t).bind _) = _
    rw [hi, e1, Option.bind_some, e2, Option.bind_some]
  obtain ⟨q1, q2⟩ := qstep (V := v / 2 ^ (k + 1)) (w := w) (b := v / 2 ^ k % 2) hw hb
  rw [← half_up] at q1 q2
  rw [hun]
  by_cases c : v / 2 ^ (k + 1) % w * 2 + v / 2 ^ k % 2 < w
  · obtain ⟨a1, a2⟩ := q1 c
    obtain ⟨s2, e3, f3, r3⟩ := r_grow (u := s1) (x := z) (c := 2) (m := 0) (by omega) z1 (by decide) (by decide) (Nat.lt_of_le_of_lt (Nat.add_le_add (Nat.mul_le_mul hq (Nat.le_refl 2)) (show 0 ≤ 1 by decide)) big)
    refine ⟨s2, ?_, FX_t (FX_m f1 (fun y h => Or.inl h)) (FX_m f3 (fun y h => Or.inr h)), ?_, ?_⟩
    · rw [if_pos (cmp_neg.mpr c)]
      unfold M_Model_quotient_b81 M_Model_quotient_b94 M_Model_quotient_b109
      rw [if_pos rfl, if_pos rfl]
      show ((M_Model_grow (nI z) (lN 2) (lN 0) s1).bind _) = _
      rw [e3, Option.bind_some]
    · rw [a1]
      exact f3.2.2.2.2 x _ (by omega) (by omega) r1
    · rw [a2]
      exact r3
  · obtain ⟨a1, a2⟩ := q2 (by omega)
    obtain ⟨s2, e3, f3, r3⟩ := r_less (u := s1) (x := x) (y := y) (by omega) (by omega) hxy r1 y1 (by omega)
    obtain ⟨s3, e4, f4, r4⟩ := r_grow (u := s2) (x := z) (c := 2) (m := 1) (by omega) (f3.2.2.2.2 z _ (by omega) (by omega) z1) (by decide) (by decide) (Nat.lt_of_le_of_lt (Nat.add_le_add (Nat.mul_le_mul hq (Nat.le_refl 2)) (Nat.le_refl 1)) big)
    refine ⟨s3, ?_, FX_t (FX_m f1 (fun y h => Or.inl h)) (FX_t (FX_m f3 (fun y h => Or.inl h)) (FX_m f4 (fun y h => Or.inr h))), ?_, ?_⟩
    · rw [if_neg (by rw [cmp_neg]; exact c)]
      unfold M_Model_quotient_b81 M_Model_quotient_b94 M_Model_quotient_b109
      rw [if_neg (by decide), e3, Option.bind_some, if_neg (by decide)]
      show ((M_Model_grow (nI z) (lN 2) (lN 1) s2).bind _) = _
      rw [e4, Option.bind_some]
    · rw [a1]
      exact f4.2.2.2.2 x _ (by omega) (by omega) r3
    · rw [a2]
      exact r4
theorem r_quot {u : gSt} {x y z v w : Nat} (hx : x < 7) (hy : y < 7) (hz : z < 7) (hxy : x ≠ y) (hxz : x ≠ z) (hyz : y ≠ z) (hw : 0 < w) (hwb : w < 2 ^ 600) (hvb : v < 2 ^ 600) (hv : Rs u x v) (hy2 : Rs u y w) : ∃ t, M_Model_quotient (nI z) (nI x) (nI y) u = some t ∧ FX (fun r => r = x ∨ r = z ∨ r = 7) u t ∧ Rs t x (v % w) ∧ Rs t z (v / w) := by
  obtain ⟨s1, e1, f1, r1⟩ := r_copy (u := u) (x := 7) (y := x) (by decide) (by omega) (by omega) hv
  obtain ⟨s2, e2, f2, r2⟩ := r_set (u := s1) (x := x) (b := 0) (by omega) (by decide)
  have hg : gsA s2 56 z (0 : Int32) = rq s2 (s2.1 42 28) (s2.2.2.1 55) (upd (s2.2.2.1 56) z (0 : Int32)) := by
    have := rg_a56 (u := s2) (D := s2.2.2.1 55) (N := s2.2.2.1 56) (i := z) (v := (0 : Int32))
    rw [rg_0] at this
    rw [this, rg_rq]
  have f3 : FX (fun r => r = z) s2 (gsA s2 56 z (0 : Int32)) := by
    rw [hg]
    exact FX_rq Ox_N
  have r3 : Rs (gsA s2 56 z (0 : Int32)) z 0 := by
    rw [hg]
    exact Rs_rq ⟨0, ⟨by decide, pk_us, by decide, fun k hk => absurd hk (Nat.not_lt_zero _)⟩, Or.inl rfl⟩
  generalize hS : gsA s2 56 z (0 : Int32) = s3 at f3 r3
  have x3 : Rs s3 x 0 := f3.2.2.2.2 x _ (by omega) (by omega) r2
  have w3' : Rs s3 7 v := f3.2.2.2.2 7 _ (by omega) (by omega) (f2.2.2.2.2 7 _ (by omega) (by omega) r1)
  have y3 : Rs s3 y w := f3.2.2.2.2 y _ (by omega) (by omega) (f2.2.2.2.2 y _ (by omega) (by omega) (f1.2.2.2.2 y _ (by omega) (by omega) hy2))
  obtain ⟨m, ⟨m1, m2, m3, m4⟩, m5⟩ := w3'
  have w3 : Rs s3 7 v := ⟨m, ⟨m1, m2, m3, m4⟩, m5⟩
  have hz0 : v / 2 ^ (15 * m) = 0 := by
    refine Nat.div_eq_of_lt ?_
    rw [Nat.pow_mul]
    exact m3
  have ex : nI 15 * nI m - (1 : Int32) = upX (15 * m) 0 := by
    unfold upX
    rw [qi_mul]
    by_cases c : 0 < 15 * m
    · rw [if_pos c, show (1 : Int32) = nI 1 from rfl, pk_sub (by omega)]
      rfl
    · rw [if_neg c, show 15 * m = 0 by omega]
      rfl
  obtain ⟨t, et, ft, rx, rz⟩ := lp_rel (f := M_Model_quotient_L34) (Po := fun t : gSt => FX (fun r => r = x ∨ r = z) s3 t ∧ Rs t x (v % w) ∧ Rs t z (v / w)) (fun i (q : Int32 × Int32 × Int32 × Int32 × gSt) => q.1 = nI z ∧ q.2.1 = nI x ∧ q.2.2.1 = nI y ∧ q.2.2.2.1 = upX (15 * m) i ∧ FX (fun r => r = x ∨ r = z) s3 q.2.2.2.2 ∧ Rs q.2.2.2.2 x (v / 2 ^ (15 * m - i) % w) ∧ Rs q.2.2.2.2 z (v / 2 ^ (15 * m - i) / w)) (15 * m) 0 (15 * m) (by omega) (fun i q _ hi hq => by
    obtain ⟨q1, q2, q3, q4, t⟩ := q
    obtain ⟨rfl, rfl, rfl, rfl, ft, rx, rz⟩ := hq
    have ft' : FX (fun r => r = x ∨ r = z) s3 t := ft
    obtain ⟨k, hk⟩ : ∃ k, 15 * m - i = k + 1 := ⟨15 * m - i - 1, by omega⟩
    have hk2 : 15 * m - (i + 1) = k := by omega
    rw [hk] at rx rz
    obtain ⟨s, es, fs, sx, sz⟩ := r_quot1 (t := t) (k := k) hx hy hz hxy hxz hyz (by omega) hw hwb hvb (ft'.2.2.2.2 7 _ (by omega) (by omega) w3) (ft'.2.2.2.2 y _ (by omega) (by omega) y3) rx rz
    have hx1 : upX (15 * m) i = nI k := by
      unfold upX
      rw [if_pos hi, show 15 * m - 1 - i = k by omega]
    have hx2 : nI k + (-1 : Int32) = upX (15 * m) (i + 1) := by
      unfold upX
      by_cases c : i + 1 < 15 * m
      · rw [if_pos c, qi_m1 (by omega), show k - 1 = 15 * m - 1 - (i + 1) by omega]
      · rw [if_neg c, show k = 0 by omega]
        rfl
    refine ⟨(nI z, nI x, nI y, upX (15 * m) (i + 1), s), ?_, rfl, rfl, rfl, rfl, FX_t ft' fs, ?_, ?_⟩
    · show M_Model_quotient_b34 (nI z) (nI x) (nI y) (upX (15 * m) i) t = _
      rw [hx1, es, hx2]
    · rw [hk2]
      exact sx
    · rw [hk2]
      exact sz) (fun q hq => by
    obtain ⟨q1, q2, q3, q4, t⟩ := q
    obtain ⟨rfl, rfl, rfl, rfl, ft, rx, rz⟩ := hq
    rw [show 15 * m - 15 * m = 0 by omega, Nat.pow_zero, Nat.div_one] at rx rz
    refine ⟨t, ?_, ft, rx, rz⟩
    have ex2 : upX (15 * m) (15 * m) = -1 := by
      unfold upX
      rw [if_neg (by omega)]
    show M_Model_quotient_b34 (nI z) (nI x) (nI y) (upX (15 * m) (15 * m)) t = _
    unfold M_Model_quotient_b34
    rw [ex2, if_pos (by decide)]) (nI z, nI x, nI y, upX (15 * m) 0, s3) ⟨rfl, rfl, rfl, rfl, FX_0, by rw [Nat.sub_zero, hz0, Nat.zero_mod]; exact x3, by rw [Nat.sub_zero, hz0, Nat.zero_div]; exact r3⟩
  refine ⟨t, ?_, FX_t (FX_m f1 (fun y h => Or.inr (Or.inr h))) (FX_t (FX_m f2 (fun y h => Or.inl h)) (FX_t (FX_m f3 (fun y h => Or.inr (Or.inl h))) (FX_m ft (fun y h => by rcases h with h | h; exact Or.inl h; exact Or.inr (Or.inl h))))), rx, rz⟩
  unfold M_Model_quotient
  show ((M_Model_copyNumber (nI 7) (nI x) u).bind _) = _
  rw [e1, Option.bind_some]
  show ((M_Model_set (nI x) (nI 0) s1).bind _) = _
  rw [e2, Option.bind_some, gc_t (qi_in (n := gLen 56) (by omega) (show z < 8 by omega)), qi_ix (by omega), hS, Option.bind_some]
  show ((gLp M_Model_quotient_L34 (nI z, nI x, nI y, nI 15 * s3.2.2.1 56 7 - (1 : Int32), s3)).bind fun y34 => some y34) = _
  rw [m2, ex, et]
  rfl
theorem r_gcdL : ∀ (n : Nat) (t : gSt) (C S : Nat), S ≤ n → C < 2 ^ 600 → S < 2 ^ 600 → Rs t 3 C → Rs t 0 S → ∃ w, gLp M_Model_divisor_L13 t = some w ∧ FX (fun r => r < 4 ∨ r = 7) t w ∧ Rs w 3 (Nat.gcd C S) := by
  intro n
  induction n with
  | zero =>
    intro t C S hS hC hSb h3 h0
    obtain rfl : S = 0 := by omega
    obtain ⟨m, ⟨m1, m2, m3, m4⟩, m5⟩ := h0
    have hm : m = 0 := by
      rcases m5 with h | h
      · exact h
      · have := p5 (m - 1)
        omega
    refine ⟨t, gLp_done ?_, FX_0, by rw [Nat.gcd_zero_right]; exact h3⟩
    show (gc (gIn (0 : Int32) (gLen 56)) <| if t.2.2.1 56 0 ≤ (0 : Int32) then some (Sum.inr t) else _) = _
    rw [gc_t (by decide), m2, hm, if_pos (by decide)]
  | succ n ih =>
    intro t C S hS hC hSb h3 h0
    by_cases c : S = 0
    · exact ih t C S (by omega) hC hSb h3 h0
    · obtain ⟨s1, e1, f1, r1, q1⟩ := r_quot (u := t) (x := 3) (y := 0) (z := 1) (by decide) (by decide) (by decide) (by decide) (by decide) (by decide) (show 0 < S by omega) hSb hC h3 h0
      obtain ⟨s2, e2, f2, r2⟩ := r_copy (u := s1) (x := 2) (y := 3) (by decide) (by decide) (by decide) r1
      have a2 : Rs s2 0 S := f2.2.2.2.2 0 _ (by decide) (by decide) (f1.2.2.2.2 0 _ (by decide) (by decide) h0)
      obtain ⟨s3, e3, f3, r3⟩ := r_copy (u := s2) (x := 3) (y := 0) (by decide) (by decide) (by decide) a2
      obtain ⟨s4, e4, f4, r4⟩ := r_copy (u := s3) (x := 0) (y := 2) (by decide) (by decide) (by decide) (f3.2.2.2.2 2 _ (by decide) (by decide) r2)
      have hlt : C % S < S := Nat.mod_lt _ (by omega)
      obtain ⟨w, ew, fw, rw'⟩ := ih s4 S (C % S) (by omega) hSb (by omega) (f4.2.2.2.2 3 _ (by decide) (by decide) r3) r4
      have hg : Nat.gcd S (C % S) = Nat.gcd C S := by
        rw [Nat.gcd_comm S (C % S), ← Nat.gcd_rec S C, Nat.gcd_comm]
      rw [hg] at rw'
      obtain ⟨m, ⟨m1, m2, m3, m4⟩, m5⟩ := h0
      have hm : 0 < m := by
        by_cases d : m = 0
        · rw [d] at m3
          omega
        · omega
      refine ⟨w, ?_, FX_t (FX_m f1 (fun y h => by omega)) (FX_t (FX_m f2 (fun y h => by omega)) (FX_t (FX_m f3 (fun y h => by omega)) (FX_t (FX_m f4 (fun y h => by omega)) fw))), rw'⟩
      rw [gLp_next (f := M_Model_divisor_L13) (show M_Model_divisor_L13 t = some (.inl s4) from by
        show (gc (gIn (0 : Int32) (gLen 56)) <| if t.2.2.1 56 0 ≤ (0 : Int32) then some (Sum.inr t) else ((M_Model_quotient (nI 1) (nI 3) (nI 0) t).bind fun q26 => (M_Model_copyNumber (nI 2) (nI 3) q26).bind fun q32 => (M_Model_copyNumber (nI 3) (nI 0) q32).bind fun q38 => (M_Model_copyNumber (nI 0) (nI 2) q38).bind fun q44 => some (Sum.inl q44))) = _
        rw [gc_t (by decide), m2, if_neg (by rw [qi_le0 (by omega)]; omega), e1, Option.bind_some, e2, Option.bind_some, e3, Option.bind_some, e4, Option.bind_some])]
      exact ew
theorem r_gcd {u : gSt} {X Y : Nat} (hX : X < 2 ^ 600) (hY : Y < 2 ^ 600) (h5 : Rs u 5 X) (h6 : Rs u 6 Y) : ∃ w, M_Model_divisor u = some w ∧ FX (fun r => r < 4 ∨ r = 7) u w ∧ Rs w 3 (Nat.gcd X Y) := by
  obtain ⟨s1, e1, f1, r1⟩ := r_copy (u := u) (x := 3) (y := 5) (by decide) (by decide) (by decide) h5
  obtain ⟨s2, e2, f2, r2⟩ := r_copy (u := s1) (x := 0) (y := 6) (by decide) (by decide) (by decide) (f1.2.2.2.2 6 _ (by decide) (by decide) h6)
  obtain ⟨w, ew, fw, r⟩ := r_gcdL Y s2 X Y (Nat.le_refl _) hX hY (f2.2.2.2.2 3 _ (by decide) (by decide) r1) r2
  refine ⟨w, ?_, FX_t (FX_m f1 (fun y h => by omega)) (FX_t (FX_m f2 (fun y h => by omega)) fw), r⟩
  unfold M_Model_divisor
  show ((M_Model_copyNumber (nI 3) (nI 5) u).bind _) = _
  rw [e1, Option.bind_some]
  show ((M_Model_copyNumber (nI 0) (nI 6) s1).bind _) = _
  rw [e2, Option.bind_some, ew]
  rfl
