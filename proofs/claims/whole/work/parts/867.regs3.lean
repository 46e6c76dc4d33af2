/-! The model's numbers: load, save, add, choose, product. -/
/-- twenty digits of v at fr in the array a -/
def Sv (u : gSt) (a fr v : Nat) : Prop := v < 32768 ^ 20 ∧ ∀ k, k < 20 → u.2.2.1 a (fr + k) = nI (v / 32768 ^ k % 32768)
theorem q_load {u : gSt} {D N : Nat → Int32} {x a fr v : Nat} (hx : x < 8) (h1 : a ≠ 55) (h2 : a ≠ 56) (ha : gK a = 22) (hl : fr + 20 ≤ gLen a) (hf : fr < 100000) (hv : Sv u a fr v) : ∃ D' N', M_Model_load (nI x) a (nI fr) (rg u D N) = some (rg u D' N') ∧ Ox D N D' N' x ∧ Rd D' N' x v := by
  have k1 : (gK a == 22) = true := by rw [ha]; rfl
  have key := lp_rel (f := M_Model_load_L3) (Po := fun z => ∃ D', z = (nI x, rg u D' N) ∧ Ox D N D' N x ∧ ∀ k, k < 20 → D' (48 * x + k) = nI (v / 32768 ^ k % 32768)) (fun i z => ∃ D', z = (nI x, a, nI fr, nI i, rg u D' N) ∧ Ox D N D' N x ∧ ∀ k, k < i → D' (48 * x + k) = nI (v / 32768 ^ k % 32768)) 20 0 20 (by omega) ?_ ?_ (nI x, a, nI fr, (0 : Int32), rg u D N) ⟨D, rfl, Ox_0, fun k hk => by omega⟩
  · obtain ⟨z, e, D', rfl, o, h⟩ := key
    obtain ⟨N2, e2, o2, r5⟩ := q_trim (u := u) hx 20 (upd N x (nI 20)) (D := D') (w := v) ⟨by omega, pk_us, hv.1, h⟩
    refine ⟨D', N2, ?_, Ox_t o (Ox_t Ox_N o2), r5⟩
    unfold M_Model_load
    rw [e, Option.bind_some]
    show (gc (gIn (nI x) (gLen 56)) <| ((M_Model_trimNumber (nI x) (gsA (rg u D' N) 56 (gIx (nI x)) (20 : Int32))).bind fun q44 => some q44)) = _
    rw [gc_t (qi_in (n := gLen 56) (by omega) (show x < 8 from hx)), qi_ix (by omega), rg_a56]
    show ((M_Model_trimNumber (nI x) (rg u D' (upd N x (nI 20)))).bind _) = _
    rw [e2]
    rfl
  · rintro i z - hi ⟨D', rfl, o, h⟩
    refine ⟨_, ?_, upd D' (48 * x + i) (nI (v / 32768 ^ i % 32768)), rfl, Ox_t o (Ox_D (j := i) hx (show i < 48 by omega)), fun k hk => ?_⟩
    · show M_Model_load_b3 (nI x) a (nI fr) (nI i) (rg u D' N) = _
      unfold M_Model_load_b3
      rw [if_neg (show ¬ (20 : Int32) ≤ nI i by rw [show (20 : Int32) = nI 20 from rfl, qi_le (by omega) (by omega)]; omega), gc_t k1, qi_add, gc_t (qi_in (by omega) (by omega)), mul48, gc_t (qi_in (n := gLen 55) (by omega) (show 48 * x + i < 384 by omega)), qi_ix (by omega), qi_ix (by omega), rg_o h1 h2, hv.2 i hi, Option.bind_some, rg_a55]
      show some (Sum.inl (nI x, a, nI fr, nI i + nI 1, _)) = _
      rw [qi_add]
    · by_cases e9 : k = i
      · rw [e9, pk_us]
      · rw [pk_un (by omega)]
        exact h k (by omega)
  · rintro z ⟨D', rfl, o, h⟩
    exact ⟨_, rfl, D', rfl, o, h⟩
theorem rg_aO {u : gSt} {D N : Nat → Int32} {a i : Nat} {v : Int32} (h1 : a ≠ 55) (h2 : a ≠ 56) : gsA (rg u D N) a i v = rg (gsR u a (upd (u.2.2.1 a) i v)) D N := by
  rw [gsA_R, rg_o h1 h2]
  unfold rg gsR
  refine Prod.ext rfl (Prod.ext rfl (Prod.ext (funext fun b => ?_) rfl))
  show (if b = a then _ else if b = 56 then N else if b = 55 then D else u.2.2.1 b) = (if b = 56 then N else if b = 55 then D else if b = a then _ else u.2.2.1 b)
  by_cases c1 : b = a
  · rw [if_pos c1, if_neg (by omega), if_neg (by omega), if_pos c1]
  · rw [if_neg c1, if_neg c1]
theorem q_save {u : gSt} {D N : Nat → Int32} {x a fr v : Nat} (hx : x < 8) (h1 : a ≠ 55) (h2 : a ≠ 56) (ha : gK a = 22) (hl : fr + 20 ≤ gLen a) (hf : fr < 100000) (hv : Rd D N x v) : M_Model_save (nI x) a (nI fr) (rg u D N) = some (rg (gsR u a (fun i => if fr ≤ i ∧ i < fr + 20 then nI (v / 32768 ^ (i - fr) % 32768) else u.2.2.1 a i)) D N) := by
  have k1 : (gK a == 22) = true := by rw [ha]; rfl
  obtain ⟨m, hm, -⟩ := hv
  have e0 : (nI x, a, nI fr, (0 : Int32), rg u D N) = (fun j => (nI x, a, nI fr, nI j, rg (gsR u a (fun i => if fr ≤ i ∧ i < fr + j then nI (v / 32768 ^ (i - fr) % 32768) else u.2.2.1 a i)) D N)) 0 := by
    show _ = (nI x, a, nI fr, nI 0, rg (gsR u a (fun i => if fr ≤ i ∧ i < fr + 0 then nI (v / 32768 ^ (i - fr) % 32768) else u.2.2.1 a i)) D N)
    rw [gsR_0 (u := u)]
    · rfl
    · funext i
      rw [if_neg (by omega)]
  unfold M_Model_save
  rw [e0, lp_to (S := fun j => (nI x, a, nI fr, nI j, rg (gsR u a (fun i => if fr ≤ i ∧ i < fr + j then nI (v / 32768 ^ (i - fr) % 32768) else u.2.2.1 a i)) D N)) (y := rg (gsR u a (fun i => if fr ≤ i ∧ i < fr + 20 then nI (v / 32768 ^ (i - fr) % 32768) else u.2.2.1 a i)) D N) (k := 0) (N := 20) (Nat.zero_le _) (fun j _ hj => ?_) rfl]
  · rfl
  · show M_Model_save_b3 (nI x) a (nI fr) (nI j) (rg (gsR u a (fun i => if fr ≤ i ∧ i < fr + j then nI (v / 32768 ^ (i - fr) % 32768) else u.2.2.1 a i)) D N) = some (Sum.inl (nI x, a, nI fr, nI (j + 1), rg (gsR u a (fun i => if fr ≤ i ∧ i < fr + (j + 1) then nI (v / 32768 ^ (i - fr) % 32768) else u.2.2.1 a i)) D N))
    unfold M_Model_save_b3
    rw [if_neg (show ¬ (20 : Int32) ≤ nI j by rw [show (20 : Int32) = nI 20 from rfl, qi_le (by omega) (by omega)]; omega), q_digitR hx (by omega) hm, Option.bind_some, gc_t k1, qi_add, gc_t (qi_in (by omega) (by omega)), qi_ix (by omega), Option.bind_some, rg_aO h1 h2, gsR_R, gsR_a]
    show some (Sum.inl (nI x, a, nI fr, nI j + nI 1, _)) = _
    rw [qi_add]
    refine congrArg (fun f => some (Sum.inl (nI x, a, nI fr, nI (j + 1), rg (gsR u a f) D N))) ?_
    funext i
    show (if i = fr + j then nI (v / 32768 ^ j % 32768) else (if fr ≤ i ∧ i < fr + j then nI (v / 32768 ^ (i - fr) % 32768) else u.2.2.1 a i)) = _
    by_cases c1 : i = fr + j
    · rw [if_pos c1, if_pos (by omega), show i - fr = j by omega]
    · rw [if_neg c1]
      by_cases c2 : fr ≤ i ∧ i < fr + j
      · rw [if_pos c2, if_pos (by omega)]
      · rw [if_neg c2, if_neg (by omega)]
theorem cb9 {s q t t2 t3 : Nat} (h1 : s < t3) (h3 : q ≤ t) (h6 : t3 ≤ t2) : s + q < t + t2 := by omega
/-- x + c y -/
theorem q_add9 {u : gSt} {D N : Nat → Int32} {x y v w c : Nat} (hx : x < 8) (hy : y < 8) (hne : x ≠ y) (hv : Rd D N x v) (hw : Rd D N y w) (hc : c < 2 ^ 31) (hb : v + w * c < 32768 ^ 48) : ∃ D' N', M_Model_addNumber (nI x) (nI y) (nI c) (rg u D N) = some (rg u D' N') ∧ Ox D N D' N' x ∧ Rd D' N' x (v + w * c) := by
  obtain ⟨m0, ⟨r1, r2, r3, r4⟩, -⟩ := hv
  obtain ⟨my, hmy, -⟩ := hw
  have my48 := hmy.1
  have hwlt := hmy.2.2.1
  obtain ⟨K, hK1, hK2, hK3⟩ : ∃ K, my ≤ K ∧ v % 32768 ^ K + w * c < 32768 ^ K ∧ ∀ j, my ≤ j → j < K → 32768 ^ j ≤ v % 32768 ^ j + w * c := by
    obtain ⟨K, hk, hmin⟩ := pk_least (fun K => my ≤ K ∧ v % 32768 ^ K + w * c < 32768 ^ K) ⟨48, my48, Nat.lt_of_le_of_lt (Nat.add_le_add_right (Nat.mod_le _ _) _) hb⟩
    refine ⟨K, hk.1, hk.2, fun j h1 h2 => ?_⟩
    have := hmin j h2
    rcases Nat.lt_or_ge (v % 32768 ^ j + w * c) (32768 ^ j) with h3 | h3
    · exact absurd ⟨h1, h3⟩ this
    · exact h3
  have hK48 : K ≤ 48 := by
    rcases Nat.lt_or_ge 48 K with h3 | h3
    · have h9 := hK3 48 my48 h3
      have h8 := Nat.mod_le v (32768 ^ 48)
      exact absurd (Nat.lt_of_le_of_lt (Nat.le_trans h9 (Nat.add_le_add_right h8 _)) hb) (Nat.lt_irrefl _)
    · exact h3
  have wmod : ∀ k, my ≤ k → w % 32768 ^ k = w := fun k hk => Nat.mod_eq_of_lt (Nat.lt_of_lt_of_le hwlt (Nat.pow_le_pow_right (by decide) hk))
  have eK : (v + w * c) / 32768 ^ K = v / 32768 ^ K := by
    have e1 : v + w * c = (v % 32768 ^ K + w * c) + 32768 ^ K * (v / 32768 ^ K) := by
      have := Nat.mod_add_div v (32768 ^ K)
      generalize 32768 ^ K * (v / 32768 ^ K) = z at *
      omega
    rw [e1, Nat.add_mul_div_left _ _ (p5 K), Nat.div_eq_of_lt hK2, Nat.zero_add]
  have eJ : ∀ j, K ≤ j → (v + w * c) / 32768 ^ j = v / 32768 ^ j := fun j hj => by
    have e1 : 32768 ^ j = 32768 ^ K * 32768 ^ (j - K) := by
      rw [← Nat.pow_add]
      congr 1
      omega
    rw [e1, ← Nat.div_div_eq_div_mul, ← Nat.div_div_eq_div_mul, eK]
  have hcar : ∀ k, (v % 32768 ^ k + w % 32768 ^ k * c) / 32768 ^ k < 2 ^ 32 := fun k => by
    rw [Nat.div_lt_iff_lt_mul (p5 k)]
    have h1 : v % 32768 ^ k < 32768 ^ k := Nat.mod_lt _ (p5 k)
    have h2 : w % 32768 ^ k ≤ 32768 ^ k := Nat.le_of_lt (Nat.mod_lt _ (p5 k))
    have h3 : w % 32768 ^ k * c ≤ 32768 ^ k * 2147483647 := Nat.mul_le_mul h2 (by omega)
    have h5 : (2 : Nat) ^ 32 * 32768 ^ k = 32768 ^ k * 2147483647 + 32768 ^ k * 2147483649 := by
      rw [← Nat.mul_add, Nat.mul_comm]
    have h6 : 32768 ^ k ≤ 32768 ^ k * 2147483649 := Nat.le_mul_of_pos_right _ (by decide)
    rw [h5]
    exact cb9 h1 h3 h6
  have key := lp_rel (f := M_Model_addNumber_L6) (Po := fun z => ∃ D' N', z = (nI x, rg u D' N') ∧ Ox D N D' N' x ∧ Ru D' N' x (max m0 K) (v + w * c)) (fun k z => ∃ D' N', z = (nI x, nI y, nI c, lN ((v % 32768 ^ k + w % 32768 ^ k * c) / 32768 ^ k), nI k, rg u D' N') ∧ Ox D N D' N' x ∧ N' x = nI (max m0 k) ∧ (∀ j, j < k → D' (48 * x + j) = nI ((v + w * c) / 32768 ^ j % 32768)) ∧ ∀ j, k ≤ j → j < m0 → D' (48 * x + j) = nI (v / 32768 ^ j % 32768)) K 0 K (by omega) ?_ ?_ (nI x, nI y, nI c, (0 : Int64), (0 : Int32), rg u D N) ⟨D, N, by rw [Nat.pow_zero, Nat.mod_one, Nat.mod_one, Nat.zero_mul, Nat.div_one]; rfl, Ox_0, by rw [r2, Nat.max_eq_left (Nat.zero_le _)], fun j hj => by omega, fun j _ hj => r4 j hj⟩
  · obtain ⟨z, e, D', N', rfl, o, r⟩ := key
    obtain ⟨N2, e2, o2, r5⟩ := q_trim (u := u) hx (max m0 K) N' r
    refine ⟨D', N2, ?_, Ox_t o o2, r5⟩
    unfold M_Model_addNumber
    rw [e, Option.bind_some]
    show ((M_Model_trimNumber (nI x) (rg u D' N')).bind _) = _
    rw [e2]
    rfl
  · rintro k z - hk ⟨D', N', rfl, o, hN, hlo, hhi⟩
    obtain ⟨s1, s2, s3⟩ := astep (B := 32768) (P := 32768 ^ k) (v := v) (w := w) (c := c) (p5 k)
    have hd := d5_lt (v := v) (i := k)
    have he := d5_lt (v := w) (i := k)
    have hdc : w / 32768 ^ k % 32768 * c ≤ 32767 * 2147483647 := Nat.mul_le_mul (by omega) (by omega)
    have hck := hcar k
    have hdig : M_Model_digit (nI x) (nI k) (rg u D' N') = some (nI (v / 32768 ^ k % 32768), rg u D' N') := q_digit hx (by omega) hN (by omega) (fun hc9 => hhi k (Nat.le_refl _) (by omega)) (fun hc9 => low0 r3 (by omega))
    have hdig2 : M_Model_digit (nI y) (nI k) (rg u D' N') = some (nI (w / 32768 ^ k % 32768), rg u D' N') := q_digitR hy (by omega) (Ru_o o hy (Ne.symm hne) hmy)
    have htot : (v % (32768 ^ k * 32768) + w % (32768 ^ k * 32768) * c) / 32768 ^ k < 2 ^ 62 := by
      rw [← s1]
      generalize (v % 32768 ^ k + w % 32768 ^ k * c) / 32768 ^ k = a1 at *
      generalize w / 32768 ^ k % 32768 * c = a2 at *
      generalize v / 32768 ^ k % 32768 = a3 at *
      omega
    have body : M_Model_addNumber_b24 (nI x) (nI y) (nI c) (lN ((v % 32768 ^ k + w % 32768 ^ k * c) / 32768 ^ k)) (nI k) (rg u D' N') = some (.inl (nI x, nI y, nI c, lN ((v % 32768 ^ (k + 1) + w % 32768 ^ (k + 1) * c) / 32768 ^ (k + 1)), nI (k + 1), rg u (upd D' (48 * x + k) (nI ((v + w * c) / 32768 ^ k % 32768))) (upd N' x (nI (max m0 (k + 1)))))) := by
      unfold M_Model_addNumber_b24 M_Model_addNumber_b99
      rw [hdig, Option.bind_some]
      show ((M_Model_digit (nI y) (nI k) (rg u D' N')).bind _) = _
      rw [hdig2, Option.bind_some, mul48, gc_t (qi_in (n := gLen 55) (by omega) (show 48 * x + k < 384 by omega)), qi_ix (by omega), nI_l (show v / 32768 ^ k % 32768 < 2 ^ 31 by omega), nI_l (show w / 32768 ^ k % 32768 < 2 ^ 31 by omega), nI_l hc, lN_mul, lN_add, lN_add, Nat.mul_comm c, s1, l_and15 htot, lN_i, s2, Option.bind_some, rg_a55, gc_t (qi_in (n := gLen 56) (by omega) (show x < 8 from hx)), rg_N, qi_ix (by omega), hN, l_shr15 htot, s3, show (1 : Int32) = nI 1 from rfl, qi_add, Nat.pow_succ]
      by_cases c9 : k + 1 ≤ max m0 k
      · rw [if_pos ((qi_le (by omega) (by omega)).mpr c9), gc_t (qi_in (n := gLen 56) (by omega) (show x < 8 from hx)), gc_t (show (gK 56 == 22) = true from rfl), gc_t (qi_in (n := gLen 56) (by omega) (show x < 8 from hx)), Option.bind_some, rg_a56, show max m0 (k + 1) = max m0 k by omega]
      · rw [if_neg (by rw [qi_le (by omega) (by omega)]; exact c9), gc_t (show (gK 56 == 22) = true from rfl), gc_t (qi_in (n := gLen 56) (by omega) (show x < 8 from hx)), Option.bind_some, rg_a56, show max m0 (k + 1) = k + 1 by omega]
    refine ⟨_, ?_, upd D' (48 * x + k) (nI ((v + w * c) / 32768 ^ k % 32768)), upd N' x (nI (max m0 (k + 1))), rfl, Ox_t o (Ox_t (Ox_D (j := k) hx (show k < 48 by omega)) Ox_N), pk_us, fun j hj => ?_, fun j h1 h2 => ?_⟩
    · show M_Model_addNumber_b6 (nI x) (nI y) (nI c) (lN ((v % 32768 ^ k + w % 32768 ^ k * c) / 32768 ^ k)) (nI k) (rg u D' N') = _
      unfold M_Model_addNumber_b6
      rw [gc_t (qi_in (n := gLen 56) (by omega) (show y < 8 from hy)), qi_ix (by omega), rg_N, (o y hy (Ne.symm hne)).1, hmy.2.1]
      by_cases c9 : k < my
      · rw [if_pos ((qi_lt (by omega) (by omega)).mpr c9)]
        exact body
      · have hc1 : 0 < (v % 32768 ^ k + w % 32768 ^ k * c) / 32768 ^ k := by
          rw [wmod k (by omega)]
          exact Nat.div_pos (hK3 k (by omega) hk) (p5 k)
        have hcmp : ¬ lg_cmp (lN ((v % 32768 ^ k + w % 32768 ^ k * c) / 32768 ^ k)) (0 : Int64) ≤ 0 := by
          unfold lg_cmp
          rw [if_pos (show lN ((v % 32768 ^ k + w % 32768 ^ k * c) / 32768 ^ k) > 0 from (pk_lLT (a := 0) (by omega) (by omega)).mpr hc1)]
          decide
        rw [if_neg (by rw [qi_lt (by omega) (by omega)]; exact c9), if_neg hcmp]
        exact body
    · show (if 48 * x + j = 48 * x + k then _ else D' (48 * x + j)) = _
      by_cases e : j = k
      · rw [if_pos (by omega), e]
      · rw [if_neg (by omega)]
        exact hlo j (by omega)
    · show (if 48 * x + j = 48 * x + k then _ else D' (48 * x + j)) = _
      rw [if_neg (by omega)]
      exact hhi j (by omega) h2
  · rintro z ⟨D', N', rfl, o, hN, hlo, hhi⟩
    have h7 : (v % 32768 ^ K + w % 32768 ^ K * c) / 32768 ^ K = 0 := by
      rw [wmod K hK1]
      exact Nat.div_eq_of_lt hK2
    refine ⟨(nI x, rg u D' N'), ?_, D', N', rfl, o, by omega, hN, ?_, fun j hj => ?_⟩
    · show M_Model_addNumber_b6 (nI x) (nI y) (nI c) (lN ((v % 32768 ^ K + w % 32768 ^ K * c) / 32768 ^ K)) (nI K) (rg u D' N') = _
      unfold M_Model_addNumber_b6
      rw [gc_t (qi_in (n := gLen 56) (by omega) (show y < 8 from hy)), qi_ix (by omega), rg_N, (o y hy (Ne.symm hne)).1, hmy.2.1, if_neg (by rw [qi_lt (by omega) (by omega)]; omega), h7]
      rfl
    · have e1 := eJ (max m0 K) (by omega)
      have h8 : v < 32768 ^ max m0 K := Nat.lt_of_lt_of_le r3 (Nat.pow_le_pow_right (by decide) (by omega))
      rw [Nat.div_eq_of_lt h8] at e1
      rcases Nat.lt_or_ge (v + w * c) (32768 ^ max m0 K) with h9 | h9
      · exact h9
      · have := Nat.div_pos h9 (p5 (max m0 K))
        omega
    · by_cases c9 : j < K
      · exact hlo j c9
      · rw [eJ j (by omega)]
        exact hhi j (by omega) (by omega)
