/-! The model's numbers: registers of base 2^15. -/
def rg (u : gSt) (D N : Nat → Int32) : gSt := gsR (gsR u 55 D) 56 N
theorem rg_D {u : gSt} {D N : Nat → Int32} : (rg u D N).2.2.1 55 = D := by
  unfold rg
  rw [gsR_b (by decide), gsR_a]
theorem rg_N {u : gSt} {D N : Nat → Int32} : (rg u D N).2.2.1 56 = N := gsR_a
theorem rg_o {u : gSt} {D N : Nat → Int32} {b : Nat} (h1 : b ≠ 55) (h2 : b ≠ 56) : (rg u D N).2.2.1 b = u.2.2.1 b := by
  unfold rg
  rw [gsR_b h2, gsR_b h1]
theorem rg_r55 {u : gSt} {D N D' : Nat → Int32} : gsR (rg u D N) 55 D' = rg u D' N := by
  unfold rg gsR
  refine Prod.ext rfl (Prod.ext rfl (Prod.ext (funext fun b => ?_) rfl))
  show (if b = 55 then D' else if b = 56 then N else if b = 55 then D else u.2.2.1 b) = (if b = 56 then N else if b = 55 then D' else u.2.2.1 b)
  by_cases h1 : b = 55
  · rw [if_pos h1, if_neg (by omega), if_pos h1]
  · rw [if_neg h1, if_neg h1, if_neg h1]
theorem rg_r56 {u : gSt} {D N N' : Nat → Int32} : gsR (rg u D N) 56 N' = rg u D N' := gsR_R
theorem rg_a55 {u : gSt} {D N : Nat → Int32} {i : Nat} {v : Int32} : gsA (rg u D N) 55 i v = rg u (upd D i v) N := by rw [gsA_R, rg_D, rg_r55]
theorem rg_a56 {u : gSt} {D N : Nat → Int32} {i : Nat} {v : Int32} : gsA (rg u D N) 56 i v = rg u D (upd N i v) := by rw [gsA_R, rg_N, rg_r56]
theorem rg_0 {u : gSt} : rg u (u.2.2.1 55) (u.2.2.1 56) = u := by
  unfold rg
  rw [gsR_0 (u := u) rfl, gsR_0 rfl]
theorem rg_rg {u : gSt} {D N D' N' : Nat → Int32} : rg (rg u D N) D' N' = rg u D' N' := by
  show gsR (gsR (rg u D N) 55 D') 56 N' = _
  rw [rg_r55, rg_r56]
/-- K digits of w in the register x -/
def Ru (D N : Nat → Int32) (x K w : Nat) : Prop := K ≤ 48 ∧ N x = nI K ∧ w < 32768 ^ K ∧ ∀ k, k < K → D (48 * x + k) = nI (w / 32768 ^ k % 32768)
/-- the number w in the register x -/
def Rd (D N : Nat → Int32) (x w : Nat) : Prop := ∃ m, Ru D N x m w ∧ (m = 0 ∨ 32768 ^ (m - 1) ≤ w)
/-- the registers but x are as they were -/
def Ox (D N D' N' : Nat → Int32) (x : Nat) : Prop := ∀ y, y < 8 → y ≠ x → N' y = N y ∧ ∀ k, k < 48 → D' (48 * y + k) = D (48 * y + k)
theorem Ox_0 {D N : Nat → Int32} {x : Nat} : Ox D N D N x := fun _ _ _ => ⟨rfl, fun _ _ => rfl⟩
theorem Ox_t {D N D' N' D2 N2 : Nat → Int32} {x : Nat} (h : Ox D N D' N' x) (k : Ox D' N' D2 N2 x) : Ox D N D2 N2 x := fun y hy hne => by
  obtain ⟨h1, h2⟩ := h y hy hne
  obtain ⟨k1, k2⟩ := k y hy hne
  exact ⟨by rw [k1, h1], fun j hj => by rw [k2 j hj, h2 j hj]⟩
theorem Ox_D {D N : Nat → Int32} {x j : Nat} {v : Int32} (hx : x < 8) (hj : j < 48) : Ox D N (upd D (48 * x + j) v) N x := fun y hy hne => ⟨rfl, fun k hk => pk_un (by omega)⟩
theorem Ox_N {D N : Nat → Int32} {x : Nat} {v : Int32} : Ox D N D (upd N x v) x := fun y hy hne => ⟨pk_un hne, fun _ _ => rfl⟩
theorem Ru_o {D N D' N' : Nat → Int32} {x y K w : Nat} (h : Ox D N D' N' x) (hy : y < 8) (hne : y ≠ x) (hr : Ru D N y K w) : Ru D' N' y K w := by
  obtain ⟨h1, h2⟩ := h y hy hne
  obtain ⟨r1, r2, r3, r4⟩ := hr
  exact ⟨r1, by rw [h1]; exact r2, r3, fun k hk => by rw [h2 k (by omega)]; exact r4 k hk⟩
theorem Rd_o {D N D' N' : Nat → Int32} {x y w : Nat} (h : Ox D N D' N' x) (hy : y < 8) (hne : y ≠ x) (hr : Rd D N y w) : Rd D' N' y w := by
  obtain ⟨m, h1, h2⟩ := hr
  exact ⟨m, Ru_o h hy hne h1, h2⟩
theorem p5 (i : Nat) : 0 < 32768 ^ i := Nat.pow_pos (by decide)
theorem d5_lt {v i : Nat} : v / 32768 ^ i % 32768 < 32768 := Nat.mod_lt _ (by decide)
theorem mul48 {x k : Nat} : (48 : Int32) * nI x + nI k = nI (48 * x + k) := by rw [show (48 : Int32) = nI 48 from rfl, qi_mul, qi_add]
/-- leading zeros go -/
theorem q_trim {u : gSt} {D : Nat → Int32} {x w : Nat} (hx : x < 8) : ∀ (K : Nat) (N : Nat → Int32), Ru D N x K w → ∃ N', M_Model_trimNumber (nI x) (rg u D N) = some (rg u D N') ∧ Ox D N D N' x ∧ Rd D N' x w
  | 0, N, h => by
    refine ⟨N, ?_, Ox_0, 0, h, Or.inl rfl⟩
    unfold M_Model_trimNumber
    have e : gLp M_Model_trimNumber_L0 (nI x, rg u D N) = some (rg u D N) := by
      refine gLp_done ?_
      show M_Model_trimNumber_b0 (nI x) (rg u D N) = _
      unfold M_Model_trimNumber_b0
      rw [gc_t (qi_in (n := gLen 56) (by omega) (show x < 8 from hx)), qi_ix (by omega), rg_N, h.2.1, if_pos (by decide)]
    rw [e]
    rfl
  | K + 1, N, h => by
    obtain ⟨r1, r2, r3, r4⟩ := h
    have hd := d5_lt (v := w) (i := K)
    have hb : M_Model_trimNumber_L0 (nI x, rg u D N) = if w / 32768 ^ K % 32768 = 0 then some (.inl (nI x, rg u D (upd N x (nI K)))) else some (.inr (rg u D N)) := by
      show M_Model_trimNumber_b0 (nI x) (rg u D N) = _
      unfold M_Model_trimNumber_b0
      have e1 : (48 : Int32) * nI x + nI (K + 1) - (1 : Int32) = nI (48 * x + K) := by
        rw [mul48, show (1 : Int32) = nI 1 from rfl, pk_sub (by omega)]
        rfl
      rw [gc_t (qi_in (n := gLen 56) (by omega) (show x < 8 from hx)), qi_ix (by omega), rg_N, r2, if_neg (show ¬ nI (K + 1) ≤ 0 by rw [qi_le0 (by omega)]; omega), gc_t (qi_in (n := gLen 56) (by omega) (show x < 8 from hx)), e1, gc_t (qi_in (n := gLen 55) (by omega) (show 48 * x + K < 384 by omega)), qi_ix (by omega), rg_D, r4 K (by omega), gc_t (qi_in (n := gLen 56) (by omega) (show x < 8 from hx)), gc_t (qi_in (n := gLen 56) (by omega) (show x < 8 from hx)), rg_a56]
      have e2 : nI (K + 1) - (1 : Int32) = nI K := by
        rw [show (1 : Int32) = nI 1 from rfl, pk_sub (by omega)]
        rfl
      rw [e2]
      by_cases c : w / 32768 ^ K % 32768 = 0
      · rw [if_pos (by rw [c]; rfl), if_pos c]
        rfl
      · rw [if_neg (show ¬ nI (w / 32768 ^ K % 32768) = 0 by rw [show (0 : Int32) = nI 0 from rfl, qi_eq (by omega) (by omega)]; exact c), if_neg c]
    by_cases c : w / 32768 ^ K % 32768 = 0
    · rw [if_pos c] at hb
      have hw : w < 32768 ^ K := by
        have h1 : w / 32768 ^ K < 32768 := by
          rw [Nat.div_lt_iff_lt_mul (p5 K), Nat.mul_comm, ← Nat.pow_succ]
          exact r3
        have h2 : w / 32768 ^ K = 0 := by
          rw [Nat.mod_eq_of_lt h1] at c
          exact c
        rcases Nat.lt_or_ge w (32768 ^ K) with h3 | h3
        · exact h3
        · have := Nat.div_pos h3 (p5 K)
          omega
      obtain ⟨N', e, o, r⟩ := q_trim hx K (upd N x (nI K)) ⟨by omega, pk_us, hw, fun k hk => r4 k (by omega)⟩
      refine ⟨N', ?_, Ox_t Ox_N o, r⟩
      unfold M_Model_trimNumber at e ⊢
      rw [gLp_next hb]
      exact e
    · rw [if_neg c] at hb
      refine ⟨N, ?_, Ox_0, K + 1, ⟨r1, r2, r3, r4⟩, Or.inr ?_⟩
      · unfold M_Model_trimNumber
        rw [gLp_done hb]
        rfl
      · show 32768 ^ K ≤ w
        rcases Nat.lt_or_ge w (32768 ^ K) with h3 | h3
        · rw [Nat.div_eq_of_lt h3] at c
          exact absurd rfl c
        · exact h3
theorem q_digit {u : gSt} {D N : Nat → Int32} {x m w k : Nat} (hx : x < 8) (hk : k < 48) (h : N x = nI m) (hm : m ≤ 48) (hd : k < m → D (48 * x + k) = nI (w / 32768 ^ k % 32768)) (h0 : m ≤ k → w / 32768 ^ k % 32768 = 0) : M_Model_digit (nI x) (nI k) (rg u D N) = some (nI (w / 32768 ^ k % 32768), rg u D N) := by
  unfold M_Model_digit M_Model_digit_b25
  rw [gc_t (qi_in (n := gLen 56) (by omega) (show x < 8 from hx)), qi_ix (by omega), rg_N, h]
  by_cases c : m ≤ k
  · rw [if_pos ((qi_le (by omega) (by omega)).mpr c), h0 c]
    rfl
  · rw [if_neg (by rw [qi_le (by omega) (by omega)]; exact c), mul48, gc_t (qi_in (n := gLen 55) (by omega) (show 48 * x + k < 384 by omega)), qi_ix (by omega), rg_D, hd (by omega)]
theorem low0 {w m k : Nat} (h : w < 32768 ^ m) (hk : m ≤ k) : w / 32768 ^ k % 32768 = 0 := by
  rw [Nat.div_eq_of_lt (Nat.lt_of_lt_of_le h (Nat.pow_le_pow_right (by decide) hk))]
theorem q_digitR {u : gSt} {D N : Nat → Int32} {x m w k : Nat} (hx : x < 8) (hk : k < 48) (h : Ru D N x m w) : M_Model_digit (nI x) (nI k) (rg u D N) = some (nI (w / 32768 ^ k % 32768), rg u D N) := q_digit hx hk h.2.1 h.1 (fun hc => h.2.2.2 k hc) (fun hc => low0 h.2.2.1 hc)
theorem lsh15 : (((15 : Int32).toInt64 &&& (63 : Int64)).toBitVec.smod 64).toNat = 15 := by decide
theorem l_shr15 {a : Nat} (h : a < 2 ^ 62) : lN a >>> ((15 : Int32).toInt64 &&& (63 : Int64)) = lN (a / 32768) := pf_shr lsh15 h
theorem l_and15 {a : Nat} (h : a < 2 ^ 62) : lN a &&& (32767 : Int64) = lN (a % 32768) := by
  rw [show (32767 : Int64) = lN (2 ^ 15 - 1) from rfl, wb_and (by omega) (by decide), Nat.and_two_pow_sub_one_eq_mod]
/-- the product by c, and m more -/
theorem q_grow {u : gSt} {D N : Nat → Int32} {x v c m : Nat} (hx : x < 8) (h : Rd D N x v) (hc : c < 2 ^ 31) (hm : m < 2 ^ 31) (hb : v * c + m < 32768 ^ 48) : ∃ D' N', M_Model_grow (nI x) (lN c) (lN m) (rg u D N) = some (rg u D' N') ∧ Ox D N D' N' x ∧ Rd D' N' x (v * c + m) := by
  obtain ⟨m0, ⟨r1, r2, r3, r4⟩, -⟩ := h
  -- how long the loop goes: the least K from m0 on with v c + m below base^K
  obtain ⟨K, hK1, hK2, hK3⟩ : ∃ K, m0 ≤ K ∧ v * c + m < 32768 ^ K ∧ ∀ j, m0 ≤ j → j < K → 32768 ^ j ≤ v * c + m := by
    obtain ⟨K, hk, hmin⟩ := pk_least (fun K => m0 ≤ K ∧ v * c + m < 32768 ^ K) ⟨48, r1, hb⟩
    refine ⟨K, hk.1, hk.2, fun j h1 h2 => ?_⟩
    have := hmin j h2
    rcases Nat.lt_or_ge (v * c + m) (32768 ^ j) with h3 | h3
    · exact absurd ⟨h1, h3⟩ this
    · exact h3
  have hK48 : K ≤ 48 := by
    rcases Nat.lt_or_ge 48 K with h3 | h3
    · have := hK3 48 r1 h3
      omega
    · exact h3
  have hcar : ∀ k, (v % 32768 ^ k * c + m) / 32768 ^ k < 2 ^ 32 := fun k => by
    rw [Nat.div_lt_iff_lt_mul (p5 k)]
    have h1 : v % 32768 ^ k < 32768 ^ k := Nat.mod_lt _ (p5 k)
    have h2 : v % 32768 ^ k * c ≤ 32768 ^ k * c := Nat.mul_le_mul_right c (Nat.le_of_lt h1)
    have h3 : 32768 ^ k * c ≤ 32768 ^ k * 2147483647 := Nat.mul_le_mul_left _ (by omega)
    have h4 := p5 k
    have h5 : (2 : Nat) ^ 32 * 32768 ^ k = 32768 ^ k * 2147483647 + 32768 ^ k * 2147483649 := by
      rw [← Nat.mul_add, Nat.mul_comm]
    have h6 : 2147483649 ≤ 32768 ^ k * 2147483649 := Nat.le_mul_of_pos_left _ h4
    omega
  -- the loop
  have key := lp_rel (f := M_Model_grow_L7) (Po := fun z => ∃ D' N', z = (nI x, rg u D' N') ∧ Ox D N D' N' x ∧ Ru D' N' x K (v * c + m)) (fun k z => ∃ D' N', z = (nI x, lN c, lN ((v % 32768 ^ k * c + m) / 32768 ^ k), nI k, rg u D' N') ∧ Ox D N D' N' x ∧ N' x = nI (max m0 k) ∧ (∀ j, j < k → D' (48 * x + j) = nI ((v * c + m) / 32768 ^ j % 32768)) ∧ ∀ j, k ≤ j → j < m0 → D' (48 * x + j) = nI (v / 32768 ^ j % 32768)) K 0 K (by omega) ?_ ?_ (nI x, lN c, lN m, (0 : Int32), rg u D N) ⟨D, N, by rw [Nat.pow_zero, Nat.mod_one, Nat.zero_mul, Nat.zero_add, Nat.div_one]; rfl, Ox_0, by rw [r2, Nat.max_eq_left (Nat.zero_le _)], fun j hj => by omega, fun j _ hj => r4 j hj⟩
  · obtain ⟨z, e, D', N', rfl, o, r⟩ := key
    obtain ⟨N2, e2, o2, r5⟩ := q_trim (u := u) hx K N' r
    refine ⟨D', N2, ?_, Ox_t o o2, r5⟩
    unfold M_Model_grow
    show ((gLp M_Model_grow_L7 (nI x, lN c, lN m, (0 : Int32), rg u D N)).bind _) = _
    rw [e, Option.bind_some]
    show ((M_Model_trimNumber (nI x) (rg u D' N')).bind _) = _
    rw [e2]
    rfl
  · rintro k z - hk ⟨D', N', rfl, o, hN, hlo, hhi⟩
    obtain ⟨s1, s2, s3⟩ := mstep (B := 32768) (P := 32768 ^ k) (v := v) (c := c) (m := m) (p5 k)
    have hd := d5_lt (v := v) (i := k)
    have hdc : v / 32768 ^ k % 32768 * c ≤ 32767 * 2147483647 := Nat.mul_le_mul (by omega) (by omega)
    have hck := hcar k
    have hdig : M_Model_digit (nI x) (nI k) (rg u D' N') = some (nI (v / 32768 ^ k % 32768), rg u D' N') := q_digit hx (by omega) hN (by omega) (fun hc9 => hhi k (Nat.le_refl _) (by omega)) (fun hc9 => low0 r3 (by omega))
    have htot : (v % (32768 ^ k * 32768) * c + m) / 32768 ^ k < 2 ^ 62 := by
      rw [← s1]
      omega
    have body : M_Model_grow_b25 (nI x) (lN c) (lN ((v % 32768 ^ k * c + m) / 32768 ^ k)) (nI k) (rg u D' N') = some (.inl (nI x, lN c, lN ((v % 32768 ^ (k + 1) * c + m) / 32768 ^ (k + 1)), nI (k + 1), rg u (upd D' (48 * x + k) (nI ((v * c + m) / 32768 ^ k % 32768))) (upd N' x (nI (max m0 (k + 1)))))) := by
      unfold M_Model_grow_b25 M_Model_grow_b90
      rw [hdig, Option.bind_some, mul48, gc_t (qi_in (n := gLen 55) (by omega) (show 48 * x + k < 384 by omega)), qi_ix (by omega), nI_l (by omega), lN_mul, lN_add, Nat.mul_comm c, s1, l_and15 htot, lN_i, s2, Option.bind_some, rg_a55, gc_t (qi_in (n := gLen 56) (by omega) (show x < 8 from hx)), rg_N, qi_ix (by omega), hN, l_shr15 htot, s3, show (1 : Int32) = nI 1 from rfl, qi_add, Nat.pow_succ]
      by_cases c9 : k + 1 ≤ max m0 k
      · rw [if_pos ((qi_le (by omega) (by omega)).mpr c9), gc_t (qi_in (n := gLen 56) (by omega) (show x < 8 from hx)), gc_t (show (gK 56 == 22) = true from rfl), gc_t (qi_in (n := gLen 56) (by omega) (show x < 8 from hx)), Option.bind_some, rg_a56, show max m0 (k + 1) = max m0 k by omega]
      · rw [if_neg (by rw [qi_le (by omega) (by omega)]; exact c9), gc_t (show (gK 56 == 22) = true from rfl), gc_t (qi_in (n := gLen 56) (by omega) (show x < 8 from hx)), Option.bind_some, rg_a56, show max m0 (k + 1) = k + 1 by omega]
    refine ⟨_, ?_, upd D' (48 * x + k) (nI ((v * c + m) / 32768 ^ k % 32768)), upd N' x (nI (max m0 (k + 1))), rfl, Ox_t o (Ox_t (Ox_D (j := k) hx (show k < 48 by omega)) Ox_N), pk_us, fun j hj => ?_, fun j h1 h2 => ?_⟩
    · show M_Model_grow_b7 (nI x) (lN c) (lN ((v % 32768 ^ k * c + m) / 32768 ^ k)) (nI k) (rg u D' N') = _
      unfold M_Model_grow_b7
      rw [gc_t (qi_in (n := gLen 56) (by omega) (show x < 8 from hx)), qi_ix (by omega), rg_N, hN]
      by_cases c9 : k < max m0 k
      · rw [if_pos ((qi_lt (by omega) (by omega)).mpr c9)]
        exact body
      · have hc1 : 0 < (v % 32768 ^ k * c + m) / 32768 ^ k := by
          have h7 : v % 32768 ^ k = v := Nat.mod_eq_of_lt (Nat.lt_of_lt_of_le r3 (Nat.pow_le_pow_right (by decide) (by omega)))
          rw [h7]
          exact Nat.div_pos (hK3 k (by omega) hk) (p5 k)
        have hcmp : ¬ lg_cmp (lN ((v % 32768 ^ k * c + m) / 32768 ^ k)) (0 : Int64) ≤ 0 := by
          unfold lg_cmp
          rw [if_pos (show lN ((v % 32768 ^ k * c + m) / 32768 ^ k) > 0 from (pk_lLT (a := 0) (by omega) (by omega)).mpr hc1)]
          decide
        rw [if_neg (by rw [qi_lt (by omega) (by omega)]; exact c9), if_neg hcmp]
        exact body
    · show (if 48 * x + j = 48 * x + k then _ else D' (48 * x + j)) = _
      by_cases e : j = k
      · rw [if_pos (by omega), e]
      · rw [if_neg (by omega)]
        exact hlo j (by omega)
    · show (if 48 * x + j = 48 * x + k then _ else D' (48 * x + j)) = _
      rw [if_neg (by omega)]
      exact hhi j (by omega) h2
  · rintro z ⟨D', N', rfl, o, hN, hlo, hhi⟩
    have h7 : v % 32768 ^ K = v := Nat.mod_eq_of_lt (Nat.lt_of_lt_of_le r3 (Nat.pow_le_pow_right (by decide) hK1))
    refine ⟨(nI x, rg u D' N'), ?_, D', N', rfl, o, hK48, by rw [hN, Nat.max_eq_right hK1], hK2, hlo⟩
    show M_Model_grow_b7 (nI x) (lN c) (lN ((v % 32768 ^ K * c + m) / 32768 ^ K)) (nI K) (rg u D' N') = _
    unfold M_Model_grow_b7
    rw [gc_t (qi_in (n := gLen 56) (by omega) (show x < 8 from hx)), qi_ix (by omega), rg_N, hN, if_neg (by rw [qi_lt (by omega) (by omega)]; omega), h7, Nat.div_eq_of_lt hK2]
    rfl
