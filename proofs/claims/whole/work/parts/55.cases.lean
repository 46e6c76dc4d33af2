/-! The law's cases 12 (character), 13 (clear). -/
theorem qi_of {x : Int32} {n : Nat} (h0 : ¬ x < 0) (h1 : ¬ nI n ≤ x) (hn : n < 2147483648) : ∃ k : Nat, x = nI k ∧ k < n := by
  rw [Int32.lt_iff_toInt_lt, Int32.toInt_zero] at h0
  rw [Int32.le_iff_toInt_le, nI_toInt hn] at h1
  refine ⟨x.toInt.toNat, ?_, by omega⟩
  rw [← Int32.toInt_inj, nI_toInt (by omega)]
  omega
theorem q_c12 {L j : Nat} {xs : Nat → Int32} {u u1 u2 : gSt} {v : Int32} (hL : L ≤ 3072) (h : 6 * j + 6 ≤ L) (e1 : M_Desk_character (xs (gIx (nI (6 * j) + (1 : Int32)))) u = some (v, u1)) (e2 : M_Model_character (xs (gIx (nI (6 * j) + (1 : Int32)))) u1 = some (v, u2)) : M_Law_c12 L xs (nI (6 * j)) u = some u2 := by
  unfold M_Law_c12
  rw [gc_t (p_g1 hL h), e1, Option.bind_some, gc_t (p_g1 hL h), e2, Option.bind_some, if_pos rfl]
theorem p_c12 {L j m : Nat} {xs : Nat → Int32} {u : gSt} (hL : L ≤ 3072) (h : 6 * j + 6 ≤ L) (hm : m ≤ 160) (h1 : u.1 38 3 = nI m) (h2 : u.1 42 39 = nI m) (h3 : ∀ i, i < m → u.2.2.1 39 i = u.2.2.1 64 i) : M_Law_c12 L xs (nI (6 * j)) u = some (gsF u 42 41 0) := by
  have hall := fun (v : Int32) (u1 u2 : gSt) => q_c12 (L := L) (j := j) (xs := xs) (u := u) (u1 := u1) (u2 := u2) (v := v) hL h
  generalize M_Law_c12 L xs (nI (6 * j)) u = V at hall ⊢
  generalize xs (gIx (nI (6 * j) + (1 : Int32))) = x at hall
  have h2' : (gsF u 42 41 0).1 42 39 = nI m := h2
  by_cases c1 : x < 0
  · refine hall (-1) u _ ?_ ?_
    · unfold M_Desk_character
      rw [if_pos c1]
      rfl
    · unfold M_Model_character
      rw [Option.bind_some, if_pos c1]
      rfl
  · by_cases c2 : nI m ≤ x
    · refine hall (-1) u _ ?_ ?_
      · unfold M_Desk_character
        rw [if_neg c1, h1, if_pos c2]
        rfl
      · unfold M_Model_character
        rw [Option.bind_some, if_neg c1, h2', if_pos c2]
        rfl
    · obtain ⟨k, rfl, hk⟩ := qi_of c1 c2 (by omega)
      refine hall (u.2.2.1 39 k) u _ ?_ ?_
      · unfold M_Desk_character
        rw [if_neg c1, h1, if_neg c2, gc_t (qi_in (by omega) (by show k < 160; omega)), qi_ix (by omega)]
        rfl
      · unfold M_Model_character
        rw [Option.bind_some, if_neg c1, h2', if_neg c2, gc_t (qi_in (by omega) (by show k < 400; omega)), qi_ix (by omega), h3 k hk]
        rfl
