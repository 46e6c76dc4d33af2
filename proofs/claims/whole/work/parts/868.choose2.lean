/-! The model's choose, product, count. -/
/-- the model with rest r, digits D, sizes N -/
def rq (u : gSt) (r : Int32) (D N : Nat → Int32) : gSt := rg (gsF u 42 28 r) D N
theorem rq_0 {u : gSt} : rq u (u.1 42 28) (u.2.2.1 55) (u.2.2.1 56) = u := by
  unfold rq
  rw [gsF_0 rfl, rg_0]
theorem q_lowerQ {u : gSt} {r : Int32} {D N : Nat → Int32} {x v c : Nat} (hx : x < 8) (h : Rd D N x v) (h0 : 0 < c) (hc : c < 2 ^ 31) : ∃ r' D' N', M_Model_lower (nI x) (nI c) (rq u r D N) = some (rq u r' D' N') ∧ Ox D N D' N' x ∧ Rd D' N' x (v / c) := by
  obtain ⟨D', N', e, o, h9⟩ := q_lower (u := gsF u 42 28 r) hx h h0 hc
  rw [gsF_F] at e
  exact ⟨nI (v % c), D', N', e, o, h9⟩
theorem q_choose {u : gSt} {r : Int32} {D N : Nat → Int32} {x v k : Nat} (hx : x < 8) (hk : k ≤ v) (hv : v ≤ 200) : ∃ r' D' N', M_Model_choose (nI x) (nI v) (nI k) (rq u r D N) = some (rq u r' D' N') ∧ Ox D N D' N' x ∧ Rd D' N' x (ch v k) := by
  obtain ⟨D1, N1, e1, o1, h1⟩ := q_set (u := gsF u 42 28 r) (D := D) (N := N) (b := 1) hx (by decide)
  have hp : ∀ i, ch v i ≤ 2 ^ 200 := fun i => Nat.le_trans (ch_two v i) (Nat.pow_le_pow_right (by decide) hv)
  have key := lp_rel (f := M_Model_choose_L22) (Po := fun z => ∃ r' D' N', z = rq u r' D' N' ∧ Ox D N D' N' x ∧ Rd D' N' x (ch v k)) (fun i z => ∃ r' D' N', z = (nI x, nI v, nI k, nI i, rq u r' D' N') ∧ Ox D N D' N' x ∧ Rd D' N' x (ch v i)) k 0 k (by omega) ?_ ?_ (nI x, nI v, nI k, (0 : Int32), rq u r D1 N1) ⟨r, D1, N1, rfl, o1, by rw [ch_0]; exact h1⟩
  · obtain ⟨z, e, r', D', N', rfl, o, h⟩ := key
    refine ⟨r', D', N', ?_, o, h⟩
    unfold M_Model_choose M_Model_choose_b16
    rw [if_neg (show ¬ nI k < 0 by rw [show (0 : Int32) = nI 0 from rfl, qi_lt (by omega) (by omega)]; omega), if_pos ((qi_le (by omega) (by omega)).mpr hk)]
    show ((M_Model_set (nI x) (nI 1) (rg (gsF u 42 28 r) D N)).bind _) = _
    rw [e1, Option.bind_some]
    show ((gLp M_Model_choose_L22 (nI x, nI v, nI k, (0 : Int32), rq u r D1 N1)).bind _) = _
    rw [e]
    rfl
  · rintro i z - hi ⟨r', D', N', rfl, o, h⟩
    have hb : ch v i * (v - i) + 0 < 32768 ^ 48 := by
      rw [Nat.add_zero]
      have h2 : ch v i * (v - i) ≤ 2 ^ 200 * 200 := Nat.mul_le_mul (hp i) (by omega)
      exact Nat.lt_of_le_of_lt h2 (by decide)
    obtain ⟨D2, N2, e2, o2, h2⟩ := q_grow (u := gsF u 42 28 r') (m := 0) hx h (show v - i < 2 ^ 31 by omega) (by decide) hb
    obtain ⟨r3, D3, N3, e3, o3, h3⟩ := q_lowerQ (u := u) (r := r') (c := i + 1) hx h2 (by omega) (by omega)
    have e9 : (ch v i * (v - i) + 0) / (i + 1) = ch v (i + 1) := by
      have := ch_up v i
      rw [Nat.add_zero, Nat.mul_comm, ← this, Nat.mul_div_cancel_left _ (by omega)]
    rw [e9] at h3
    refine ⟨_, ?_, r3, D3, N3, rfl, Ox_t o (Ox_t o2 o3), h3⟩
    show M_Model_choose_b22 (nI x) (nI v) (nI k) (nI i) (rq u r' D' N') = _
    unfold M_Model_choose_b22
    rw [if_neg (by rw [qi_le (by omega) (by omega)]; omega), if_neg (by rw [qi_lt (by omega) (by omega)]; omega), pk_sub (by omega), nI_l (show v - i < 2 ^ 31 by omega)]
    show ((M_Model_grow (nI x) (lN (v - i)) (lN 0) (rg (gsF u 42 28 r') D' N')).bind _) = _
    rw [e2, Option.bind_some]
    show ((M_Model_lower (nI x) (nI i + nI 1) (rq u r' D2 N2)).bind _) = _
    rw [qi_add, e3, Option.bind_some]
    show some (Sum.inl (nI x, nI v, nI k, nI i + nI 1, _)) = _
    rw [qi_add]
  · rintro z ⟨r', D', N', rfl, o, h⟩
    refine ⟨_, ?_, r', D', N', rfl, o, h⟩
    show M_Model_choose_b22 (nI x) (nI v) (nI k) (nI k) (rq u r' D' N') = _
    unfold M_Model_choose_b22
    rw [if_pos ((qi_le (by omega) (by omega)).mpr (Nat.le_refl _))]
theorem Ox_s {D N D' N' : Nat → Int32} {x y : Nat} (h : Ox D N D' N' x) (hy : y < 8) (hne : y ≠ x) {w : Nat} (hr : Rd D N y w) : Rd D' N' y w := Rd_o h hy hne hr
/-- z = x y -/
theorem q_product {u : gSt} {D N : Nat → Int32} {z x y v w : Nat} (hz : z < 8) (hx : x < 8) (hy : y < 8) (hzx : z ≠ x) (hzy : z ≠ y) (hv : Rd D N x v) (hw : Rd D N y w) (hb : w * v * 32768 + w * 32768 < 32768 ^ 48) : ∃ D' N', M_Model_product (nI z) (nI x) (nI y) (rg u D N) = some (rg u D' N') ∧ Ox D N D' N' z ∧ Rd D' N' z (w * v) := by
  obtain ⟨m, hm, hm2⟩ := hv
  have m48 := hm.1
  have step : ∀ (i : Nat) (D' N' : Nat → Int32), i < m → Ox D N D' N' z → Rd D' N' z (w * (v / 32768 ^ (i + 1))) → ∃ D2 N2, M_Model_product_b17 (nI z) (nI x) (nI y) (nI i) (rg u D' N') = some (.inl (nI z, nI x, nI y, nI i - (1 : Int32), rg u D2 N2)) ∧ Ox D N D2 N2 z ∧ Rd D2 N2 z (w * (v / 32768 ^ i)) := fun i D' N' hi o h => by
    have hq : v / 32768 ^ i ≤ v := Nat.div_le_self _ _
    have e0 : v / 32768 ^ i = v / 32768 ^ (i + 1) * 32768 + v / 32768 ^ i % 32768 := by
      rw [Nat.pow_succ, ← Nat.div_div_eq_div_mul]
      have := Nat.mod_add_div (v / 32768 ^ i) 32768
      generalize v / 32768 ^ i / 32768 = a at *
      generalize v / 32768 ^ i % 32768 = b at *
      omega
    have e1 : w * (v / 32768 ^ (i + 1)) * 32768 + 0 + w * (v / 32768 ^ i % 32768) = w * (v / 32768 ^ i) := by
      rw [Nat.add_zero, Nat.mul_assoc, ← Nat.mul_add, ← e0]
    have hb1 : w * (v / 32768 ^ (i + 1)) * 32768 + 0 < 32768 ^ 48 := by
      rw [Nat.add_zero]
      have h1 : w * (v / 32768 ^ (i + 1)) ≤ w * v := Nat.mul_le_mul_left _ (Nat.div_le_self _ _)
      have h2 : w * (v / 32768 ^ (i + 1)) * 32768 ≤ w * v * 32768 := Nat.mul_le_mul_right _ h1
      exact Nat.lt_of_le_of_lt (Nat.le_trans h2 (Nat.le_add_right _ _)) hb
    have hb2 : w * (v / 32768 ^ (i + 1)) * 32768 + 0 + w * (v / 32768 ^ i % 32768) < 32768 ^ 48 := by
      rw [e1]
      have h1 : w * (v / 32768 ^ i) ≤ w * v := Nat.mul_le_mul_left _ hq
      have h2 : w * v ≤ w * v * 32768 := Nat.le_mul_of_pos_right _ (by decide)
      exact Nat.lt_of_le_of_lt (Nat.le_trans (Nat.le_trans h1 h2) (Nat.le_add_right _ _)) hb
    obtain ⟨D1, N1, g1, o1, h1⟩ := q_grow (u := u) (m := 0) hz h (show 32768 < 2 ^ 31 by decide) (by decide) hb1
    have hd := d5_lt (v := v) (i := i)
    have o2 := Ox_t o o1
    have hdg := q_digitR (u := u) hx (show i < 48 by omega) (Ru_o o2 hx (Ne.symm hzx) hm)
    obtain ⟨D2, N2, g2, o3, h3⟩ := q_add9 (u := u) (c := v / 32768 ^ i % 32768) hz hy hzy h1 (Rd_o o2 hy (Ne.symm hzy) hw) (by omega) hb2
    rw [e1] at h3
    refine ⟨D2, N2, ?_, Ox_t o2 o3, h3⟩
    unfold M_Model_product_b17
    rw [if_neg (show ¬ nI i < 0 by rw [show (0 : Int32) = nI 0 from rfl, qi_lt (by omega) (by omega)]; omega)]
    show ((M_Model_grow (nI z) (lN 32768) (lN 0) (rg u D' N')).bind _) = _
    rw [g1, Option.bind_some, hdg, Option.bind_some]
    show ((M_Model_addNumber (nI z) (nI y) (nI (v / 32768 ^ i % 32768)) (rg u D1 N1)).bind _) = _
    rw [g2, Option.bind_some, m1_sub]
  have loop : ∀ (i : Nat) (D' N' : Nat → Int32), i ≤ m → Ox D N D' N' z → Rd D' N' z (w * (v / 32768 ^ i)) → ∃ D2 N2, gLp M_Model_product_L17 (nI z, nI x, nI y, nI i - (1 : Int32), rg u D' N') = some (rg u D2 N2) ∧ Ox D N D2 N2 z ∧ Rd D2 N2 z (w * v) := by
    intro i
    induction i with
    | zero =>
      intro D' N' _ o h
      rw [Nat.pow_zero, Nat.div_one] at h
      exact ⟨D', N', gLp_done rfl, o, h⟩
    | succ i ih =>
      intro D' N' hi o h
      obtain ⟨D2, N2, e, o2, h2⟩ := step i D' N' (by omega) o h
      obtain ⟨D3, N3, e3, o3, h3⟩ := ih D2 N2 (by omega) o2 h2
      refine ⟨D3, N3, ?_, o3, h3⟩
      rw [nI_pred i, gLp_next (x' := (nI z, nI x, nI y, nI i - (1 : Int32), rg u D2 N2)) e]
      exact e3
  have h0 : Rd D (upd N z (nI 0)) z (w * (v / 32768 ^ m)) := by
    rw [Nat.div_eq_of_lt hm.2.2.1, Nat.mul_zero]
    exact ⟨0, ⟨by omega, pk_us, by decide, fun k hk => by omega⟩, Or.inl rfl⟩
  obtain ⟨D2, N2, e, o, h⟩ := loop m D (upd N z (nI 0)) (Nat.le_refl _) Ox_N h0
  refine ⟨D2, N2, ?_, o, h⟩
  unfold M_Model_product
  rw [gc_t (qi_in (n := gLen 56) (by omega) (show z < 8 from hz)), qi_ix (by omega), Option.bind_some, rg_a56, gc_t (qi_in (n := gLen 56) (by omega) (show x < 8 from hx)), qi_ix (by omega)]
  show ((gLp M_Model_product_L17 (nI z, nI x, nI y, (rg u D (upd N z (nI 0))).2.2.1 56 x - (1 : Int32), rg u D (upd N z (nI 0)))).bind _) = _
  rw [rg_N, pk_un (Ne.symm hzx), hm.2.1, e]
  rfl
