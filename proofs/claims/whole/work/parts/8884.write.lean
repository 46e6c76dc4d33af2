/-! The class writes characters and whole numbers. -/
def tS (u : gSt) (T : Nat → Nat) (m : Nat) : Prop := u.1 38 3 = nI m ∧ ∀ i, i < m → u.2.2.1 39 i = nI (T i)
def FY (u w : gSt) : Prop := (∀ a j, a ≠ 38 ∨ j ≠ 3 → w.1 a j = u.1 a j) ∧ w.2.1 = u.2.1 ∧ (∀ a, a ≠ 39 → w.2.2.1 a = u.2.2.1 a) ∧ w.2.2.2 = u.2.2.2
theorem FY_0 {u : gSt} : FY u u := ⟨fun _ _ _ => rfl, rfl, fun _ _ => rfl, rfl⟩
theorem FY_t {u v w : gSt} (h : FY u v) (k : FY v w) : FY u w := ⟨fun a j e => by rw [k.1 a j e, h.1 a j e], by rw [k.2.1, h.2.1], fun a e => by rw [k.2.2.1 a e, h.2.2.1 a e], by rw [k.2.2.2, h.2.2.2]⟩
theorem Wv_Y {u w : gSt} {r v : Nat} (h : FY u w) (hr : r ≠ 39) (hv : Wv u r v) : Wv w r v := ⟨hv.1, fun i hi => by rw [h.2.2.1 r hr]; exact hv.2 i hi⟩
theorem ch_128 : ∀ c, c < 128 → ((((nI c).toUInt32 % 65536).toInt32).toUInt32.toUInt16.toUInt32.toInt32) = nI c := by decide
theorem d_write {u : gSt} {T : Nat → Nat} {m c : Nat} (ht : tS u T m) (hm : m < 160) (hc : c < 128) (hT : T m = c) : ∃ w, M_Strip_write (nI c) u = some w ∧ tS w T (m + 1) ∧ FY u w := by
  refine ⟨gsF (gsR u 39 (upd (u.2.2.1 39) m (nI c))) 38 3 (nI (m + 1)), ?_, ⟨gF_a, fun i hi => ?_⟩, ⟨fun a j e => gF_o e, rfl, fun a e => gsR_b e, rfl⟩⟩
  · unfold M_Strip_write M_Strip_write_b31
    rw [ht.1, show (160 : Int32) = nI 160 from rfl, if_neg (by rw [qi_le (by omega) (by omega)]; omega), gc_t (qi_in (n := gLen 39) (by omega) (show m < 160 from hm)), qi_ix (by omega), ch_128 c hc, gsA_R, Option.bind_some]
    show some (gsF (gsR u 39 (upd (u.2.2.1 39) m (nI c))) 38 3 (u.1 38 3 + nI 1)) = _
    rw [ht.1, qi_add]
  · show (gsR u 39 (upd (u.2.2.1 39) m (nI c))).2.2.1 39 i = _
    rw [gsR_a]
    by_cases e : i = m
    · rw [e, pk_us, hT]
    · rw [pk_un e]
      exact ht.2 i (by omega)
theorem fig_at {v i d : Nat} (hd : d < 9) : v / 1000000000 ^ i % 1000000000 / 10 ^ (8 - d) % 10 = v / 10 ^ (9 * i + (8 - d)) % 10 := by
  have e1 : (1000000000 : Nat) = 10 ^ (8 - d) * 10 ^ (d + 1) := by
    rw [← Nat.pow_add, show 8 - d + (d + 1) = 9 by omega]
  have e2 : v / 1000000000 ^ i % 1000000000 / 10 ^ (8 - d) = v / 1000000000 ^ i / 10 ^ (8 - d) % 10 ^ (d + 1) := by
    have := Nat.mod_mul_right_div_self (v / 1000000000 ^ i) (10 ^ (8 - d)) (10 ^ (d + 1))
    rw [← e1] at this
    exact this
  have e3 : 1000000000 ^ i * 10 ^ (8 - d) = 10 ^ (9 * i + (8 - d)) := by
    rw [show (1000000000 : Nat) = 10 ^ 9 from rfl, ← Nat.pow_mul, ← Nat.pow_add]
  rw [e2, Nat.div_div_eq_div_mul, e3]
  refine Nat.mod_mod_of_dvd _ ?_
  rw [Nat.pow_succ]
  exact Nat.dvd_mul_left _ _
theorem fig_pos {v c e : Nat} (h1 : v < 10 ^ c) (h2 : 10 ^ (c - 1) ≤ v) (h : c ≤ e + 1) : 0 < v / 10 ^ e % 10 ↔ e < c := by
  have hp : 0 < 10 ^ e := Nat.pow_pos (by decide)
  have h3 : v < 10 ^ e * 10 := Nat.lt_of_lt_of_le h1 (Nat.pow_le_pow_right (by decide) h)
  have h4 : v / 10 ^ e < 10 := by
    rw [Nat.div_lt_iff_lt_mul hp, Nat.mul_comm]
    exact h3
  rw [Nat.mod_eq_of_lt h4]
  constructor
  · intro h5
    by_cases c1 : e < c
    · exact c1
    · have : v < 10 ^ e := Nat.lt_of_lt_of_le h1 (Nat.pow_le_pow_right (by decide) (by omega))
      rw [Nat.div_eq_of_lt this] at h5
      omega
  · intro h5
    have : 10 ^ e ≤ v := Nat.le_trans (Nat.pow_le_pow_right (by decide) (by omega)) h2
    exact Nat.div_pos this hp
theorem fig_lt {v e : Nat} : v / 10 ^ e % 10 < 10 := Nat.mod_lt _ (by decide)
/-- one figure -/
theorem d_fig {u : gSt} {r v c m i d : Nat} {T : Nat → Nat} (hr : r = 40 ∨ r = 41) (hv : Wv u r v) (h1 : v < 10 ^ c) (h2 : 10 ^ (c - 1) ≤ v) (hm : m + c ≤ 160) (hT : ∀ k, k < c → T (m + k) = 48 + v / 10 ^ (c - 1 - k) % 10) (hi : i < 8) (hd : d < 9) (ht : tS u T (m + (c - (9 * i + 9 - d)))) : ∃ w, M_Strip_writeWhole_b16 r (b2i (decide (9 * i + 9 - d < c))) (nI i) (nI (10 ^ (8 - d))) (nI d) u = some (.inl (r, b2i (decide (9 * i + 9 - (d + 1) < c)), nI i, nI (10 ^ (8 - (d + 1))), nI (d + 1), w)) ∧ tS w T (m + (c - (9 * i + 9 - (d + 1)))) ∧ FY u w := by
  have gr : (gK r == 22) = true := by rcases hr with rfl | rfl <;> rfl
  have gl : gLen r = 8 := by rcases hr with rfl | rfl <;> rfl
  have p8 : 10 ^ (8 - d) ≤ 100000000 := Nat.le_trans (Nat.pow_le_pow_right (by decide) (show 8 - d ≤ 8 by omega)) (by decide)
  have pp : 0 < 10 ^ (8 - d) := Nat.pow_pos (by decide)
  have hy : v / 1000000000 ^ i % 1000000000 < 1000000000 := Nat.mod_lt _ (by decide)
  have hyd : v / 1000000000 ^ i % 1000000000 / 10 ^ (8 - d) ≤ v / 1000000000 ^ i % 1000000000 := Nat.div_le_self _ _
  have hfig : nI (v / 1000000000 ^ i % 1000000000) / nI (10 ^ (8 - d)) - nI (v / 1000000000 ^ i % 1000000000) / nI (10 ^ (8 - d)) / (10 : Int32) * (10 : Int32) = nI (v / 10 ^ (9 * i + (8 - d)) % 10) := by
    rw [pk_div (by omega) pp (by omega), show (10 : Int32) = nI 10 from rfl, pk_rem (by omega) (by decide) (by decide), fig_at hd]
  obtain ⟨e, he⟩ : ∃ e, e = 9 * i + (8 - d) := ⟨_, rfl⟩
  have hun : M_Strip_writeWhole_b16 r (b2i (decide (9 * i + 9 - d < c))) (nI i) (nI (10 ^ (8 - d))) (nI d) u = M_Strip_writeWhole_b49 r (b2i (decide (9 * i + 9 - d < c))) (nI i) (nI d) (nI (v / 10 ^ e % 10)) (nI (10 ^ (8 - (d + 1)))) u := by
    unfold M_Strip_writeWhole_b16
    have hz : (!(nI (10 ^ (8 - d)) == (0 : Int32))) = true := by
      have : ¬ nI (10 ^ (8 - d)) = (0 : Int32) := by
        rw [show (0 : Int32) = nI 0 from rfl, qi_eq (by omega) (by omega)]
        omega
      simp [this]
    rw [show (9 : Int32) = nI 9 from rfl, if_neg (by rw [qi_le (by omega) (by omega)]; omega), gc_t gr, gc_t (by rw [gl]; exact qi_in (by omega) hi), gc_t hz, qi_ix (by omega), hv.2 i hi, hfig, ← he]
    by_cases c8 : d = 8
    · subst c8
      rw [if_pos (by decide)]
      rfl
    · have : 10 ^ (8 - d) = 10 ^ (8 - (d + 1)) * 10 := by
        have h9 : 8 - d = (8 - (d + 1)) + 1 := by omega
        rw [h9]
        exact Nat.pow_succ _ _
      have p9 : 0 < 10 ^ (8 - (d + 1)) := Nat.pow_pos (by decide)
      rw [if_neg (by rw [show (1 : Int32) = nI 1 from rfl, qi_le (by omega) (by omega)]; omega), show (10 : Int32) = nI 10 from rfl, pk_div (by omega) (by decide) (by decide), this, Nat.mul_div_cancel _ (by decide)]
  rw [hun]
  have e1 : 9 * i + 9 - d = e + 1 := by omega
  have e2 : 9 * i + 9 - (d + 1) = e := by omega
  rw [e1] at ht ⊢
  rw [e2]
  have hf := fig_lt (v := v) (e := e)
  by_cases c1 : e < c
  · -- written
    have hTw : T (m + (c - (e + 1))) = 48 + v / 10 ^ e % 10 := by
      rw [hT (c - (e + 1)) (by omega), show c - 1 - (c - (e + 1)) = e by omega]
    obtain ⟨w, ew, tw, fw⟩ := d_write ht (by omega) (show 48 + v / 10 ^ e % 10 < 128 by omega) hTw
    rw [show m + (c - (e + 1)) + 1 = m + (c - e) by omega] at tw
    refine ⟨w, ?_, tw, fw⟩
    have h60 : M_Strip_writeWhole_b60 r (nI i) (nI (10 ^ (8 - (d + 1)))) (nI d) (nI (v / 10 ^ e % 10)) u = some (.inl (r, b2i (decide (e < c)), nI i, nI (10 ^ (8 - (d + 1))), nI (d + 1), w)) := by
      unfold M_Strip_writeWhole_b60 M_Strip_writeWhole_b65 M_Strip_writeWhole_b79
      rw [if_neg (by decide), show (48 : Int32) = nI 48 from rfl, qi_add, ew, Option.bind_some, show (1 : Int32) = nI 1 from rfl, qi_add, decide_eq_true c1]
      rfl
    unfold M_Strip_writeWhole_b49
    by_cases c2 : e + 1 < c
    · rw [decide_eq_true c2, if_neg (by decide), h60]
    · have := (fig_pos h1 h2 (by omega)).mpr c1
      rw [decide_eq_false c2, if_pos (show b2i false = (0 : Int32) from rfl), if_neg (by rw [qi_le0 (by omega)]; omega), h60]
  · have h0 : v / 10 ^ e % 10 = 0 := by
      have : ¬ 0 < v / 10 ^ e % 10 := fun h9 => c1 ((fig_pos h1 h2 (show c ≤ e + 1 by omega)).mp h9)
      omega
    refine ⟨u, ?_, ?_, FY_0⟩
    · unfold M_Strip_writeWhole_b49 M_Strip_writeWhole_b65 M_Strip_writeWhole_b79
      rw [decide_eq_false (show ¬ e + 1 < c by omega), if_pos (show b2i false = (0 : Int32) from rfl), h0, if_pos (by decide), if_pos rfl, decide_eq_false c1, show (1 : Int32) = nI 1 from rfl, qi_add]
      rfl
    · rw [show c - e = c - (e + 1) by omega]
      exact ht
theorem d_whole {u : gSt} {r v c m : Nat} {T : Nat → Nat} (hr : r = 40 ∨ r = 41) (hv : Wv u r v) (h1 : v < 10 ^ c) (h2 : 10 ^ (c - 1) ≤ v) (hm : m + c ≤ 160) (hT : ∀ k, k < c → T (m + k) = 48 + v / 10 ^ (c - 1 - k) % 10) (ht : tS u T m) : ∃ w, M_Strip_writeWhole r u = some w ∧ tS w T (m + c) ∧ FY u w := by
  have hc : c ≤ 72 := by
    by_cases c1 : c ≤ 72
    · exact c1
    · have a1 : 10 ^ 72 ≤ v := Nat.le_trans (Nat.pow_le_pow_right (by decide) (by omega)) h2
      have a2 := hv.1
      rw [show (1000000000 : Nat) ^ 8 = 10 ^ 72 from rfl] at a2
      omega
  obtain ⟨w, e, tw, fw⟩ := lp_rel (f := M_Strip_writeWhole_L5) (Po := fun w : gSt => tS w T (m + c) ∧ FY u w) (fun j (x : Nat × Int32 × Int32 × gSt) => x.1 = r ∧ x.2.1 = b2i (decide (9 * (8 - j) < c)) ∧ x.2.2.1 = upX 8 j ∧ tS x.2.2.2 T (m + (c - 9 * (8 - j))) ∧ FY u x.2.2.2) 8 0 8 (by decide) (fun j x _ hj hx => by
    obtain ⟨x1, x2, x3, y⟩ := x
    obtain ⟨rfl, rfl, rfl, ty, fy⟩ := hx
    have fy' : FY u y := fy
    have ty' : tS y T (m + (c - 9 * (8 - j))) := ty
    have hr39 : x1 ≠ 39 := by omega
    obtain ⟨z, ez, z1, z2, z3, tz, fz⟩ := lp_rel (f := M_Strip_writeWhole_L16) (Po := fun z : Nat × Int32 × Int32 × gSt => z.1 = x1 ∧ z.2.1 = b2i (decide (9 * (7 - j) < c)) ∧ z.2.2.1 = nI (7 - j) ∧ tS z.2.2.2 T (m + (c - 9 * (7 - j))) ∧ FY u z.2.2.2) (fun d (x : Nat × Int32 × Int32 × Int32 × Int32 × gSt) => x.1 = x1 ∧ x.2.1 = b2i (decide (9 * (7 - j) + 9 - d < c)) ∧ x.2.2.1 = nI (7 - j) ∧ x.2.2.2.1 = nI (10 ^ (8 - d)) ∧ x.2.2.2.2.1 = nI d ∧ tS x.2.2.2.2.2 T (m + (c - (9 * (7 - j) + 9 - d))) ∧ FY u x.2.2.2.2.2) 9 0 9 (by decide) (fun d x _ hd hx => by
      obtain ⟨a1, a2, a3, a4, a5, q⟩ := x
      obtain ⟨rfl, rfl, rfl, rfl, rfl, tq, fq⟩ := hx
      have fq' : FY u q := fq
      obtain ⟨w, ew, tw, fw⟩ := d_fig (i := 7 - j) (d := d) hr (Wv_Y fq' hr39 hv) h1 h2 hm hT (by omega) hd tq
      exact ⟨(_, _, _, _, _, w), ew, rfl, rfl, rfl, rfl, rfl, tw, FY_t fq' fw⟩) (fun x hx => by
      obtain ⟨a1, a2, a3, a4, a5, q⟩ := x
      obtain ⟨rfl, rfl, rfl, rfl, rfl, tq, fq⟩ := hx
      rw [show 9 * (7 - j) + 9 - 9 = 9 * (7 - j) by omega] at tq
      refine ⟨(a1, b2i (decide (9 * (7 - j) + 9 - 9 < c)), nI (7 - j), q), ?_, rfl, ?_, rfl, tq, fq⟩
      · show M_Strip_writeWhole_b16 a1 (b2i (decide (9 * (7 - j) + 9 - 9 < c))) (nI (7 - j)) (nI (10 ^ (8 - 9))) (nI 9) q = _
        unfold M_Strip_writeWhole_b16
        rw [if_pos (by decide)]
      · show b2i (decide (9 * (7 - j) + 9 - 9 < c)) = _
        rw [show 9 * (7 - j) + 9 - 9 = 9 * (7 - j) by omega]) (x1, b2i (decide (9 * (8 - j) < c)), nI (7 - j), nI 100000000, nI 0, y) ⟨rfl, by
        show b2i (decide (9 * (8 - j) < c)) = _
        rw [show 9 * (7 - j) + 9 - 0 = 9 * (8 - j) by omega], rfl, rfl, rfl, by
        rw [show 9 * (7 - j) + 9 - 0 = 9 * (8 - j) by omega]
        exact ty', fy'⟩
    obtain ⟨b1, b2, b3, q⟩ := z
    have z1' : b1 = x1 := z1
    have z2' : b2 = b2i (decide (9 * (7 - j) < c)) := z2
    have z3' : b3 = nI (7 - j) := z3
    subst z1' z2' z3'
    have hx1 : upX 8 j = nI (7 - j) := by
      unfold upX
      rw [if_pos hj]
    have hx2 : nI (7 - j) + (-1 : Int32) = upX 8 (j + 1) := by
      unfold upX
      by_cases c1 : j + 1 < 8
      · rw [if_pos c1, qi_m1 (by omega), show 7 - j - 1 = 8 - 1 - (j + 1) by omega]
      · rw [if_neg c1, show 7 - j = 0 by omega]
        rfl
    refine ⟨(b1, b2i (decide (9 * (7 - j) < c)), upX 8 (j + 1), q), ?_, rfl, ?_, rfl, ?_, fz⟩
    · show M_Strip_writeWhole_b5 b1 (b2i (decide (9 * (8 - j) < c))) (upX 8 j) y = _
      unfold M_Strip_writeWhole_b5
      rw [hx1, if_neg (show ¬ nI (7 - j) < (0 : Int32) by rw [show (0 : Int32) = nI 0 from rfl, qi_lt (by omega) (by omega)]; omega)]
      show ((gLp M_Strip_writeWhole_L16 (b1, b2i (decide (9 * (8 - j) < c)), nI (7 - j), nI 100000000, nI 0, y)).bind _) = _
      rw [ez, Option.bind_some]
      show some (Sum.inl (b1, b2i (decide (9 * (7 - j) < c)), nI (7 - j) + (-1 : Int32), q)) = _
      rw [hx2]
    · show b2i (decide (9 * (7 - j) < c)) = _
      rw [show 8 - (j + 1) = 7 - j by omega]
    · rw [show 8 - (j + 1) = 7 - j by omega]
      exact tz) (fun x hx => by
    obtain ⟨x1, x2, x3, y⟩ := x
    obtain ⟨rfl, rfl, rfl, ty, fy⟩ := hx
    refine ⟨y, ?_, by rw [show c - 9 * (8 - 8) = c by omega] at ty; exact ty, fy⟩
    show M_Strip_writeWhole_b5 x1 _ (upX 8 8) y = _
    unfold M_Strip_writeWhole_b5
    rw [if_pos (show upX 8 8 < (0 : Int32) by decide)]) (r, b2i (decide (9 * (8 - 0) < c)), upX 8 0, u) ⟨rfl, rfl, rfl, by rw [show c - 9 * (8 - 0) = 0 by omega, Nat.add_zero]; exact ht, FY_0⟩
  refine ⟨w, ?_, tw, fw⟩
  unfold M_Strip_writeWhole
  have hb : b2i (decide (9 * (8 - 0) < c)) = (0 : Int32) := by
    rw [decide_eq_false (by omega)]
    rfl
  rw [hb] at e
  show ((gLp M_Strip_writeWhole_L5 (r, (0 : Int32), upX 8 0, u)).bind _) = _
  rw [e]
  rfl
