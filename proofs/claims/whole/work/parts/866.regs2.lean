/-! The model's numbers: lower, order, copy, set. -/
theorem m1_sub {x : Int32} : x + (-1 : Int32) = x - (1 : Int32) := (Int32.sub_eq_add_neg x 1).symm
theorem q_lower {u : gSt} {D N : Nat → Int32} {x v c : Nat} (hx : x < 8) (h : Rd D N x v) (h0 : 0 < c) (hc : c < 2 ^ 31) : ∃ D' N', M_Model_lower (nI x) (nI c) (rg u D N) = some (rg (gsF u 42 28 (nI (v % c))) D' N') ∧ Ox D N D' N' x ∧ Rd D' N' x (v / c) := by
  obtain ⟨m, ⟨r1, r2, r3, r4⟩, -⟩ := h
  have hn := not_0 h0 hc
  -- the state in front of digit i - 1
  have step : ∀ i, i < m → ∀ D', (∀ k, k < i + 1 → D' (48 * x + k) = nI (v / 32768 ^ k % 32768)) → (∀ k, i < k → k < m → D' (48 * x + k) = nI (v / c / 32768 ^ k % 32768)) → M_Model_lower_b12 (nI x) (nI c) (lN (v / 32768 ^ (i + 1) % c)) (nI i) (rg u D' N) = some (.inl (nI x, nI c, lN (v / 32768 ^ i % c), nI i + (-1 : Int32), rg u (upd D' (48 * x + i) (nI (v / c / 32768 ^ i % 32768))) N)) := fun i hi D' hlo hhi => by
    obtain ⟨m1, m2⟩ := dstep (B := 32768) (P := 32768 ^ i) (v := v) (c := c) (by decide) h0
    have hr : v / (32768 ^ i * 32768) % c < c := Nat.mod_lt _ h0
    have hd := d5_lt (v := v) (i := i)
    have hb : v / (32768 ^ i * 32768) % c * 32768 + v / 32768 ^ i % 32768 < 2 ^ 63 := by omega
    have hdig : M_Model_digit (nI x) (nI i) (rg u D' N) = some (nI (v / 32768 ^ i % 32768), rg u D' N) := q_digit hx (by omega) r2 r1 (fun _ => hlo i (by omega)) (fun hc9 => by omega)
    have hsh : lN (v / (32768 ^ i * 32768) % c) <<< ((15 : Int32).toInt64 &&& (63 : Int64)) = lN (v / (32768 ^ i * 32768) % c * 32768) := by
      apply Int64.toBitVec_inj.mp
      have hy : ((15 : Int32).toInt64 &&& (63 : Int64)).toBitVec.smod 64 = BitVec.ofNat 64 15 := by decide
      rw [Int64.toBitVec_shiftLeft, hy]
      apply BitVec.eq_of_toNat_eq
      have hb9 : (lN (v / (32768 ^ i * 32768) % c)).toBitVec.toNat = v / (32768 ^ i * 32768) % c := Nat.mod_eq_of_lt (by omega)
      have hk' : (BitVec.ofNat 64 15).toNat = 15 := by decide
      have h9 : ((lN (v / (32768 ^ i * 32768) % c)).toBitVec <<< BitVec.ofNat 64 15).toNat = (v / (32768 ^ i * 32768) % c * 2 ^ 15) % 2 ^ 64 := by simp only [BitVec.shiftLeft_eq', BitVec.toNat_shiftLeft, hb9, hk', Nat.shiftLeft_eq]
      exact h9
    unfold M_Model_lower_b12
    rw [Nat.pow_succ, if_neg (show ¬ nI i < 0 by rw [show (0 : Int32) = nI 0 from rfl, qi_lt (by omega) (by omega)]; omega), hdig, Option.bind_some, gc_t hn, mul48, gc_t (qi_in (n := gLen 55) (by omega) (show 48 * x + i < 384 by omega)), Option.bind_some, gc_t hn, qi_ix (by omega), hsh, nI_l (show v / 32768 ^ i % 32768 < 2 ^ 31 by omega), nI_l hc, lN_add, pk_lRem hb h0 (by omega), pk_lDiv hb h0 (by omega), lN_i, m1, m2, rg_a55]
  have loop : ∀ (i : Nat) (D' : Nat → Int32), i ≤ m → Ox D N D' N x → (∀ k, k < i → D' (48 * x + k) = nI (v / 32768 ^ k % 32768)) → (∀ k, i ≤ k → k < m → D' (48 * x + k) = nI (v / c / 32768 ^ k % 32768)) → ∃ D2, gLp M_Model_lower_L12 (nI x, nI c, lN (v / 32768 ^ i % c), nI i - (1 : Int32), rg u D' N) = some (nI x, lN (v % c), rg u D2 N) ∧ Ox D N D2 N x ∧ ∀ k, k < m → D2 (48 * x + k) = nI (v / c / 32768 ^ k % 32768) := by
    intro i
    induction i with
    | zero =>
      intro D' _ o _ hhi
      refine ⟨D', gLp_done ?_, o, fun k hk => hhi k (Nat.zero_le _) hk⟩
      rw [Nat.pow_zero, Nat.div_one]
      rfl
    | succ i ih =>
      intro D' him o hlo hhi
      have e := step i (by omega) D' (fun k hk => hlo k hk) (fun k h1 h2 => hhi k h1 h2)
      have e1 : nI (i + 1) - (1 : Int32) = nI i := nI_pred i
      obtain ⟨D2, q1, q2, q3⟩ := ih (upd D' (48 * x + i) (nI (v / c / 32768 ^ i % 32768))) (by omega) (Ox_t o (Ox_D hx (by omega))) (fun k hk => by
        rw [pk_un (by omega)]
        exact hlo k (by omega)) (fun k h1 h2 => by
        by_cases e9 : k = i
        · rw [e9, pk_us]
        · rw [pk_un (by omega)]
          exact hhi k (by omega) h2)
      refine ⟨D2, ?_, q2, q3⟩
      rw [m1_sub] at e
      rw [e1, gLp_next (x' := (nI x, nI c, lN (v / 32768 ^ i % c), nI i - (1 : Int32), rg u (upd D' (48 * x + i) (nI (v / c / 32768 ^ i % 32768))) N)) e]
      exact q1
  have hv0 : v / 32768 ^ m % c = 0 := by rw [Nat.div_eq_of_lt r3, Nat.zero_mod]
  obtain ⟨D2, q1, q2, q3⟩ := loop m D (Nat.le_refl _) Ox_0 r4 (fun k h1 h2 => by omega)
  have hq : v / c < 32768 ^ m := Nat.lt_of_le_of_lt (Nat.div_le_self _ _) r3
  obtain ⟨N2, e2, o2, r5⟩ := q_trim (u := gsF u 42 28 (nI (v % c))) hx m N (D := D2) (w := v / c) ⟨r1, r2, hq, q3⟩
  refine ⟨D2, N2, ?_, Ox_t q2 o2, r5⟩
  unfold M_Model_lower
  rw [gc_t (qi_in (n := gLen 56) (by omega) (show x < 8 from hx)), qi_ix (by omega), rg_N, r2]
  rw [hv0] at q1
  show ((gLp M_Model_lower_L12 (nI x, nI c, lN 0, nI m - (1 : Int32), rg u D N)).bind _) = _
  rw [q1, Option.bind_some, Option.bind_some]
  show ((M_Model_trimNumber (nI x) (gsF (rg u D2 N) 42 28 (lN (v % c)).toInt32)).bind _) = _
  rw [lN_i]
  show ((M_Model_trimNumber (nI x) (rg (gsF u 42 28 (nI (v % c))) D2 N)).bind _) = _
  rw [e2]
  rfl
theorem Rd_len {D N : Nat → Int32} {x y v w m k : Nat} (h1 : Ru D N x m v) (h2 : m = 0 ∨ 32768 ^ (m - 1) ≤ v) (h3 : Ru D N y k w) (h4 : k = 0 ∨ 32768 ^ (k - 1) ≤ w) (h : m < k) : v < w := by
  rcases h4 with h4 | h4
  · omega
  · have h5 : 32768 ^ m ≤ 32768 ^ (k - 1) := Nat.pow_le_pow_right (by decide) (by omega)
    have := h1.2.2.1
    omega
theorem q_order {u : gSt} {D N : Nat → Int32} {x y v w : Nat} (hx : x < 8) (hy : y < 8) (hv : Rd D N x v) (hw : Rd D N y w) : M_Model_order (nI x) (nI y) (rg u D N) = some (cmp v w, rg u D N) := by
  obtain ⟨m, hm, hm2⟩ := hv
  obtain ⟨k, hk, hk2⟩ := hw
  have m48 := hm.1
  have k48 := hk.1
  unfold M_Model_order M_Model_order_b35
  rw [gc_t (qi_in (n := gLen 56) (by omega) (show x < 8 from hx)), gc_t (qi_in (n := gLen 56) (by omega) (show y < 8 from hy)), gc_t (qi_in (n := gLen 56) (by omega) (show x < 8 from hx)), gc_t (qi_in (n := gLen 56) (by omega) (show x < 8 from hx)), gc_t (qi_in (n := gLen 56) (by omega) (show y < 8 from hy)), qi_ix (by omega), qi_ix (by omega), rg_N, hm.2.1, hk.2.1]
  by_cases c : m = k
  · subst c
    rw [if_pos rfl]
    have step : ∀ i, i < 48 → M_Model_order_b45 (nI x) (nI y) (nI i) (rg u D N) = if v / 32768 ^ i % 32768 = w / 32768 ^ i % 32768 then some (.inl (nI x, nI y, nI i + (-1 : Int32), rg u D N)) else some (.inr (.inr (nI x, nI y, nI i, rg u D N))) := fun i hi => by
      have hd := d5_lt (v := v) (i := i)
      have he := d5_lt (v := w) (i := i)
      unfold M_Model_order_b45
      rw [if_neg (show ¬ nI i < 0 by rw [show (0 : Int32) = nI 0 from rfl, qi_lt (by omega) (by omega)]; omega), q_digitR hx hi hm, Option.bind_some]
      show ((M_Model_digit (nI y) (nI i) (rg u D N)).bind _) = _
      rw [q_digitR hy hi hk, Option.bind_some]
      show (if nI (v / 32768 ^ i % 32768) = nI (w / 32768 ^ i % 32768) then _ else _) = _
      by_cases c : v / 32768 ^ i % 32768 = w / 32768 ^ i % 32768
      · rw [if_pos (by rw [c]), if_pos c]
      · rw [if_neg (by rw [qi_eq (by omega) (by omega)]; exact c), if_neg c]
    have fin : ∀ i, i ≤ 48 → v / 32768 ^ i = w / 32768 ^ i → ((gLp M_Model_order_L45 (nI x, nI y, nI i - (1 : Int32), rg u D N)).bind fun y45 => (Sum.elim (fun y45_0 => some ((0 : Int32), y45_0)) (fun y45_1 => (M_Model_digit y45_1.1 y45_1.2.2.1 y45_1.2.2.2).bind fun q67 => (M_Model_digit y45_1.2.1 y45_1.2.2.1 q67.2).bind fun q73 => if q73.1 ≤ q67.1 then (M_Model_order_b84 (1 : Int32) q73.2) else (M_Model_order_b84 (-1 : Int32) q73.2))) y45) = some (cmp v w, rg u D N) := by
      intro i
      induction i with
      | zero =>
        intro _ he
        rw [Nat.pow_zero, Nat.div_one, Nat.div_one] at he
        have e1 : gLp M_Model_order_L45 (nI x, nI y, nI 0 - (1 : Int32), rg u D N) = some (.inl (rg u D N)) := gLp_done rfl
        rw [e1]
        show some ((0 : Int32), rg u D N) = some (cmp v w, rg u D N)
        unfold cmp
        rw [he, if_neg (by omega), if_pos rfl]
      | succ i ih =>
        intro hi he
        rw [Nat.pow_succ] at he
        obtain ⟨q1, q2⟩ := div_pw (p5 i) (by decide) he
        obtain ⟨q3, q4⟩ := div_pw (p5 i) (by decide) he.symm
        have hd := d5_lt (v := v) (i := i)
        have hf := d5_lt (v := w) (i := i)
        have s0 := step i (by omega)
        rw [nI_pred i]
        by_cases c : v / 32768 ^ i % 32768 = w / 32768 ^ i % 32768
        · rw [if_pos c] at s0
          rw [m1_sub] at s0
          rw [gLp_next (x' := (nI x, nI y, nI i - (1 : Int32), rg u D N)) s0]
          exact ih (by omega) (q1 c)
        · rw [if_neg c] at s0
          rw [gLp_done (show M_Model_order_L45 (nI x, nI y, nI i, rg u D N) = _ from s0), Option.bind_some]
          show ((M_Model_digit (nI x) (nI i) (rg u D N)).bind _) = _
          rw [q_digitR hx (by omega) hm, Option.bind_some]
          show ((M_Model_digit (nI y) (nI i) (rg u D N)).bind _) = _
          rw [q_digitR hy (by omega) hk, Option.bind_some]
          show (if nI (w / 32768 ^ i % 32768) ≤ nI (v / 32768 ^ i % 32768) then some ((1 : Int32), rg u D N) else some ((-1 : Int32), rg u D N)) = _
          unfold cmp
          by_cases c2 : w / 32768 ^ i % 32768 ≤ v / 32768 ^ i % 32768
          · have := q4 (by omega)
            rw [if_pos ((qi_le (by omega) (by omega)).mpr c2), if_neg (by omega), if_neg (by omega)]
          · have := q2 (by omega)
            rw [if_neg (by rw [qi_le (by omega) (by omega)]; exact c2), if_pos (by omega)]
    exact fin m m48 (by rw [Nat.div_eq_of_lt hm.2.2.1, Nat.div_eq_of_lt hk.2.2.1])
  · rw [if_neg (by rw [qi_eq (by omega) (by omega)]; exact c)]
    unfold cmp
    by_cases c2 : k ≤ m
    · have := Rd_len hk hk2 hm hm2 (by omega)
      rw [if_pos ((qi_le (by omega) (by omega)).mpr c2), if_neg (by omega), if_neg (by omega)]
    · have := Rd_len hm hm2 hk hk2 (by omega)
      rw [if_neg (by rw [qi_le (by omega) (by omega)]; exact c2), if_pos (by omega)]
theorem q_copy {u : gSt} {D N : Nat → Int32} {x y v : Nat} (hx : x < 8) (hy : y < 8) (hne : x ≠ y) (hv : Rd D N y v) : ∃ D' N', M_Model_copyNumber (nI x) (nI y) (rg u D N) = some (rg u D' N') ∧ Ox D N D' N' x ∧ Rd D' N' x v := by
  obtain ⟨m, ⟨r1, r2, r3, r4⟩, hm2⟩ := hv
  have key := lp_rel (f := M_Model_copyNumber_L2) (Po := fun z => ∃ D', z = (nI x, nI y, rg u D' N) ∧ Ox D N D' N x ∧ ∀ k, k < m → D' (48 * x + k) = nI (v / 32768 ^ k % 32768)) (fun i z => ∃ D', z = (nI x, nI y, nI i, rg u D' N) ∧ Ox D N D' N x ∧ ∀ k, k < i → D' (48 * x + k) = nI (v / 32768 ^ k % 32768)) m 0 m (by omega) ?_ ?_ (nI x, nI y, (0 : Int32), rg u D N) ⟨D, rfl, Ox_0, fun k hk => by omega⟩
  · obtain ⟨z, e, D', rfl, o, h⟩ := key
    refine ⟨D', upd N x (nI m), ?_, Ox_t o Ox_N, m, ⟨r1, pk_us, r3, h⟩, hm2⟩
    unfold M_Model_copyNumber
    rw [e, Option.bind_some]
    show (gc (gIn (nI y) (gLen 56)) <| gc (gIn (nI x) (gLen 56)) <| some (gsA (rg u D' N) 56 (gIx (nI x)) ((rg u D' N).2.2.1 56 (gIx (nI y))))) = _
    rw [gc_t (qi_in (n := gLen 56) (by omega) (show y < 8 from hy)), gc_t (qi_in (n := gLen 56) (by omega) (show x < 8 from hx)), qi_ix (by omega), qi_ix (by omega), rg_N, r2, rg_a56]
  · rintro i z - hi ⟨D', rfl, o, h⟩
    refine ⟨_, ?_, upd D' (48 * x + i) (nI (v / 32768 ^ i % 32768)), rfl, Ox_t o (Ox_D hx (by omega)), fun k hk => ?_⟩
    · show M_Model_copyNumber_b2 (nI x) (nI y) (nI i) (rg u D' N) = _
      unfold M_Model_copyNumber_b2
      rw [gc_t (qi_in (n := gLen 56) (by omega) (show y < 8 from hy)), qi_ix (by omega), rg_N, r2, if_neg (by rw [qi_le (by omega) (by omega)]; omega), mul48, mul48, gc_t (qi_in (n := gLen 55) (by omega) (show 48 * y + i < 384 by omega)), gc_t (qi_in (n := gLen 55) (by omega) (show 48 * x + i < 384 by omega)), qi_ix (by omega), qi_ix (by omega), rg_D, (o y hy (Ne.symm hne)).2 i (by omega), r4 i hi, rg_a55]
      show some (Sum.inl (nI x, nI y, nI i + nI 1, _)) = _
      rw [qi_add]
    · by_cases e9 : k = i
      · rw [e9, pk_us]
      · rw [pk_un (by omega)]
        exact h k (by omega)
  · rintro z ⟨D', rfl, o, h⟩
    refine ⟨_, ?_, D', rfl, o, h⟩
    show M_Model_copyNumber_b2 (nI x) (nI y) (nI m) (rg u D' N) = _
    unfold M_Model_copyNumber_b2
    rw [gc_t (qi_in (n := gLen 56) (by omega) (show y < 8 from hy)), qi_ix (by omega), rg_N, r2, if_pos ((qi_le (by omega) (by omega)).mpr (Nat.le_refl _))]
/-- set to 0 or 1 -/
theorem q_set {u : gSt} {D N : Nat → Int32} {x b : Nat} (hx : x < 8) (hb : b ≤ 1) : ∃ D' N', M_Model_set (nI x) (nI b) (rg u D N) = some (rg u D' N') ∧ Ox D N D' N' x ∧ Rd D' N' x b := by
  unfold M_Model_set
  rw [gc_t (qi_in (n := gLen 56) (by omega) (show x < 8 from hx)), qi_ix (by omega), Option.bind_some, rg_a56]
  by_cases c : b = 0
  · subst c
    refine ⟨D, upd N x (nI 0), ?_, Ox_N, 0, ⟨by omega, pk_us, by decide, fun k hk => by omega⟩, Or.inl rfl⟩
    have e : gLp M_Model_set_L9 (nI x, nI 0, rg u D (upd N x (nI 0))) = some (rg u D (upd N x (nI 0))) := gLp_done rfl
    show ((gLp M_Model_set_L9 (nI x, nI 0, rg u D (upd N x (nI 0)))).bind _) = _
    rw [e]
    rfl
  · obtain rfl : b = 1 := by omega
    refine ⟨upd D (48 * x + 0) (nI 1), upd (upd N x (nI 0)) x (nI 1), ?_, Ox_t (Ox_t Ox_N (Ox_D hx (by omega))) Ox_N, 1, ⟨by omega, pk_us, by decide, fun k hk => ?_⟩, Or.inr (by decide)⟩
    · have e1 : M_Model_set_L9 (nI x, nI 1, rg u D (upd N x (nI 0))) = some (.inl (nI x, (0 : Int32), rg u (upd D (48 * x + 0) (nI 1)) (upd (upd N x (nI 0)) x (nI 1)))) := by
        show M_Model_set_b9 (nI x) (nI 1) (rg u D (upd N x (nI 0))) = _
        unfold M_Model_set_b9
        rw [if_neg (by decide), gc_t (qi_in (n := gLen 56) (by omega) (show x < 8 from hx)), qi_ix (by omega), rg_N, pk_us, mul48, gc_t (qi_in (n := gLen 55) (by omega) (show 48 * x + 0 < 384 by omega)), qi_ix (by omega), Option.bind_some, rg_a55, gc_t (qi_in (n := gLen 56) (by omega) (show x < 8 from hx)), gc_t (qi_in (n := gLen 56) (by omega) (show x < 8 from hx)), rg_N, pk_us, Option.bind_some, rg_a56]
        rfl
      show ((gLp M_Model_set_L9 (nI x, nI 1, rg u D (upd N x (nI 0)))).bind _) = _
      rw [gLp_next e1, gLp_done (show M_Model_set_L9 (nI x, (0 : Int32), rg u (upd D (48 * x + 0) (nI 1)) (upd (upd N x (nI 0)) x (nI 1))) = some (.inr (rg u (upd D (48 * x + 0) (nI 1)) (upd (upd N x (nI 0)) x (nI 1)))) from rfl)]
      rfl
    · obtain rfl : k = 0 := by omega
      rw [pk_us]
