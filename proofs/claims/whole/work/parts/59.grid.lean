/-! Bits of the grids; the law's case 7: isAbove. -/
/-- bit j of a long -/
def lb (w : Int64) (j : Nat) : Bool := w.toBitVec.getLsbD j
theorem lb_sh : ∀ i, i < 256 → (((nI i &&& (63 : Int32)).toInt64 &&& (63 : Int64)).toBitVec.smod 64).toNat = i % 64 := by decide +kernel
theorem lb_ix : ∀ i, i < 256 → nI i >>> ((6 : Int32) &&& (31 : Int32)) = nI (i / 64) := by decide +kernel
theorem lb_has {w : Int64} {i : Nat} (hi : i < 256) : ((w >>> ((nI i &&& (63 : Int32)).toInt64 &&& (63 : Int64))) &&& (1 : Int64)) = 0 ↔ lb w (i % 64) = false := by
  rw [← Int64.toBitVec_inj, Int64.toBitVec_and, Int64.toBitVec_shiftRight]
  show w.toBitVec.sshiftRight (((nI i &&& (63 : Int32)).toInt64 &&& (63 : Int64)).toBitVec.smod 64).toNat &&& 1#64 = 0#64 ↔ _
  rw [lb_sh i hi]
  have hk : i % 64 < 64 := Nat.mod_lt _ (by decide)
  have e : (w.toBitVec.sshiftRight (i % 64)).getLsbD 0 = lb w (i % 64) := by
    unfold lb
    rw [BitVec.getLsbD_sshiftRight]
    simp [hk]
  constructor
  · intro h
    have t := congrArg (fun x => x.getLsbD 0) h
    rw [← e]
    simpa using t
  · intro h
    apply BitVec.eq_of_getLsbD_eq
    intro j hj
    rw [BitVec.getLsbD_and]
    cases j with
    | zero =>
      rw [e, h]
      rfl
    | succ j => simp
theorem lg_0 {x : Int64} : (lg_cmp x 0 = 0) ↔ x = 0 := by
  unfold lg_cmp
  constructor
  · intro h
    by_cases h1 : x > 0
    · rw [if_pos h1] at h
      exact absurd h (by decide)
    · rw [if_neg h1] at h
      by_cases h2 : x = 0
      · exact h2
      · rw [if_neg h2] at h
        exact absurd h (by decide)
  · intro h
    subst h
    decide
/-- the bit i of the row of a grid whose longs lie at r -/
def gb (u : gSt) (r row i : Nat) : Bool := lb (u.2.2.2 r (4 * row + i / 64)) (i % 64)
theorem p_has {a r row i : Nat} {u : gSt} (h1 : gK a = 5) (h2 : gFR a 0 = some r) (h3 : gK r = 24) (hr : row < 256) (hi : i < 256) (hl : 4 * row + i / 64 < gLen r) : M_Grid_has a (nI row) (nI i) u = some (if gb u r row i then 1 else 0, u) := by
  unfold M_Grid_has
  have k1 : (gK a == 5) = true := by rw [h1]; rfl
  have k2 : (gK r == 24) = true := by rw [h3]; rfl
  have e1 : nI row * (4 : Int32) + nI (i / 64) = nI (4 * row + i / 64) := by
    rw [show (4 : Int32) = nI 4 from rfl, qi_mul, qi_add, Nat.mul_comm]
  rw [gc_t k1, h2, Option.bind_some, gc_t k2, lb_ix i hi, e1, gc_t (qi_in (by omega) hl), qi_ix (by omega)]
  by_cases hb : gb u r row i = true
  · rw [if_neg (show ¬ lg_cmp _ 0 = 0 by
      rw [lg_0, lb_has hi]
      unfold gb at hb
      rw [hb]
      decide), if_pos hb]
    rfl
  · rw [if_pos (show lg_cmp _ 0 = 0 by
      rw [lg_0, lb_has hi]
      unfold gb at hb
      exact Bool.eq_false_iff.mpr hb), if_neg hb]
    rfl
/-- a term's number, asked on both sides -/
theorem p_term {x : Int32} {t : Nat} {u : gSt} (ht : t ≤ 200) (h1 : u.1 4 9 = nI t) : (P_Board_hasTerm x u = some 0 ∧ M_Board_hasTerm x u = some (0, u) ∧ ∀ u1 : gSt, u1.1 42 11 = nI t → M_Model_isTerm x u1 = some (0, u1)) ∨ ∃ k, k < t ∧ x = nI k ∧ P_Board_hasTerm x u = some 1 ∧ M_Board_hasTerm x u = some (1, u) ∧ ∀ u1 : gSt, u1.1 42 11 = nI t → M_Model_isTerm x u1 = some (1, u1) := by
  unfold P_Board_hasTerm M_Board_hasTerm M_Model_isTerm
  by_cases c1 : x < 0
  · refine Or.inl ⟨if_pos c1, ?_, fun u1 hu => ?_⟩
    · rw [if_pos c1]
      rfl
    · rw [if_pos c1]
      rfl
  · by_cases c2 : nI t ≤ x
    · refine Or.inl ⟨?_, ?_, fun u1 hu => ?_⟩
      · rw [if_neg c1, h1, if_pos c2]
      · rw [if_neg c1, h1, if_pos c2]
        rfl
      · rw [if_neg c1, hu, if_pos c2]
        rfl
    · obtain ⟨k, hk, hkt⟩ := qi_of c1 c2 (by omega)
      refine Or.inr ⟨k, hkt, hk, ?_, ?_, fun u1 hu => ?_⟩
      · rw [if_neg c1, h1, if_neg c2]
      · rw [if_neg c1, h1, if_neg c2]
        rfl
      · rw [if_neg c1, hu, if_neg c2]
        rfl
theorem p_c7 {L j t : Nat} {xs : Nat → Int32} {u : gSt} (hL : L ≤ 3072) (h : 6 * j + 6 ≤ L) (ht : t ≤ 200) (h1 : u.1 4 9 = nI t) (h2 : u.1 42 11 = nI t) (h3 : ∀ a b, a < t → b < t → u.2.2.1 51 (200 * b + a) = if gb u 16 b a then 1 else 0) : (∃ v : Int64, M_Law_c7 L xs (nI (6 * j)) u = some (gsF (gsL u 66 0 v) 42 41 0)) ∨ M_Law_c7 L xs (nI (6 * j)) u = some (gsF u 42 41 1) := by
  have hall := fun (k b : Int32) (u1 u2 : gSt) => q_c7 (L := L) (j := j) (xs := xs) (u := u) (u1 := u1) (u2 := u2) (k := k) (b := b) hL h
  generalize M_Law_c7 L xs (nI (6 * j)) u = V at hall ⊢
  generalize xs (gIx (nI (6 * j) + (1 : Int32))) = x at hall
  generalize xs (gIx (nI (6 * j) + (2 : Int32))) = y at hall
  have hbad : ∀ u1 : gSt, M_Model_isAbove_b17 x y u1 = some (0, gsF u1 42 41 1) := fun u1 => by
    unfold M_Model_isAbove_b17 M_Model_isAbove_b22
    rw [p_fails1]
    rfl
  rcases p_term (x := x) ht h1 with ⟨a1, a2, a3⟩ | ⟨a, ha, rfl, a1, a2, a3⟩
  · refine Or.inr (hall 1 0 u _ ?_ ?_ rfl (fun h9 => absurd h9 (show ¬ (1 : Int32) = 0 by decide)))
    · unfold M_Law_isAbove E_Desk_isAbove
      rw [a1]
      rfl
    · unfold M_Model_isAbove
      rw [a3 u h2, Option.bind_some, if_pos rfl]
      exact hbad u
  · rcases p_term (x := y) ht h1 with ⟨b1, b2, b3⟩ | ⟨b, hb, rfl, b1, b2, b3⟩
    · refine Or.inr (hall 1 0 u _ ?_ ?_ rfl (fun h9 => absurd h9 (show ¬ (1 : Int32) = 0 by decide)))
      · unfold M_Law_isAbove E_Desk_isAbove
        rw [a1, Option.bind_some, if_neg (by decide), b1]
        rfl
      · unfold M_Model_isAbove
        rw [a3 u h2, Option.bind_some, if_neg (show ¬ (1 : Int32) = 0 by decide), b3 u h2, Option.bind_some, if_pos rfl]
        exact hbad u
    · have hE : E_Desk_isAbove (nI a) (nI b) u = none := by
        unfold E_Desk_isAbove
        rw [a1, Option.bind_some, if_neg (by decide), b1, Option.bind_some, if_neg (by decide)]
      have hM : M_Desk_isAbove (nI a) (nI b) u = some (if gb u 16 b a then 1 else 0, u) := by
        unfold M_Desk_isAbove
        rw [a2, Option.bind_some, if_neg (show ¬ (1 : Int32) = 0 by decide), b2, Option.bind_some, if_neg (show ¬ (1 : Int32) = 0 by decide), p_has (a := 15) (r := 16) rfl rfl rfl (by omega) (by omega) (by show 4 * b + a / 64 < 800; omega), Option.bind_some]
        cases gb u 16 b a <;> rfl
      have hL2 : M_Law_isAbove (nI a) (nI b) u = some (0, gsL u 66 0 (if gb u 16 b a then 1 else 0)) := by
        unfold M_Law_isAbove
        rw [hE]
        show (M_Desk_isAbove (nI a) (nI b) u).bind _ = _
        rw [hM, Option.bind_some]
        cases gb u 16 b a <;> rfl
      have hm : ∀ u1 : gSt, u1.1 42 11 = nI t → u1.2.2.1 51 (200 * b + a) = (if gb u 16 b a then 1 else 0) → M_Model_isAbove (nI a) (nI b) u1 = some (if gb u 16 b a then 1 else 0, gsF u1 42 41 0) := fun u1 w1 w2 => by
        unfold M_Model_isAbove M_Model_isAbove_b22
        rw [a3 u1 w1, Option.bind_some, if_neg (show ¬ (1 : Int32) = 0 by decide), b3 u1 w1, Option.bind_some, if_neg (show ¬ (1 : Int32) = 0 by decide), p_fails0, Option.bind_some, if_pos rfl]
        have e9 : (200 : Int32) * nI b + nI a = nI (200 * b + a) := by
          rw [show (200 : Int32) = nI 200 from rfl, qi_mul, qi_add]
        rw [e9, gc_t (qi_in (n := gLen 51) (by omega) (show 200 * b + a < 40000 by omega)), qi_ix (by omega)]
        show gc (gZ (u1.2.2.1 51 (200 * b + a))) (some (u1.2.2.1 51 (200 * b + a), gsF u1 42 41 0)) = _
        rw [w2]
        cases gb u 16 b a <;> rfl
      refine Or.inl ⟨_, hall 0 _ _ _ hL2 (hm _ h2 (h3 a b ha hb)) rfl (fun _ => ?_)⟩
      show (if gb u 16 b a then (1 : Int64) else 0) = if (if gb u 16 b a then (1 : Int32) else 0) = 0 then 0 else 1
      cases gb u 16 b a <;> rfl
