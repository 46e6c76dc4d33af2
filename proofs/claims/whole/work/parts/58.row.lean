/-! The law's case 10: row. -/
theorem qi_mul {a b : Nat} : nI a * nI b = nI (a * b) := (Int32.ofNat_mul ..).symm
/-- what both sides hold of a report's row i: the five numbers -/
def rw_ok (u : gSt) (r : Nat) : Prop := r ≤ 200 ∧ u.1 27 13 = nI r ∧ u.1 42 36 = nI r ∧ ∀ i, i < r → ∃ c, c < 200 ∧ u.2.2.1 35 i = nI c ∧ u.2.2.1 62 (5 * i) = u.2.2.1 28 c ∧ u.2.2.1 62 (5 * i + 1) = u.2.2.1 29 c ∧ u.2.2.1 62 (5 * i + 2) = u.1 27 11 ∧ u.2.2.1 62 (5 * i + 3) = u.2.2.1 30 c ∧ u.2.2.1 62 (5 * i + 4) = u.1 27 10
theorem p_c10 {L j r : Nat} {xs : Nat → Int32} {u : gSt} (hL : L ≤ 3072) (h : 6 * j + 6 ≤ L) (hr : rw_ok u r) : (∃ v : Int64, M_Law_c10 L xs (nI (6 * j)) u = some (gsF (gsL u 66 0 v) 42 41 0)) ∨ ∃ k : Int32, M_Law_c10 L xs (nI (6 * j)) u = some (gsF u 42 41 k) := by
  have hall := fun (k b : Int32) (u1 u2 : gSt) => q_c10 (L := L) (j := j) (xs := xs) (u := u) (u1 := u1) (u2 := u2) (k := k) (b := b) hL h
  generalize M_Law_c10 L xs (nI (6 * j)) u = V at hall ⊢
  generalize xs (gIx (nI (6 * j) + (1 : Int32))) = x at hall
  generalize xs (gIx (nI (6 * j) + (2 : Int32))) = y at hall
  obtain ⟨hr1, hr2, hr3, hr4⟩ := hr
  by_cases c1 : x < 0
  · refine Or.inr ⟨1, hall 1 0 u _ ?_ ?_ rfl (fun h9 => absurd h9 (show ¬ (1 : Int32) = 0 by decide))⟩
    · unfold M_Law_row E_Desk_row P_Ranking_hasRow
      rw [if_pos c1]
      rfl
    · unfold M_Model_row M_Model_row_b13 M_Model_row_b18
      rw [if_pos c1, p_fails1]
      rfl
  · by_cases c2 : nI r ≤ x
    · refine Or.inr ⟨1, hall 1 0 u _ ?_ ?_ rfl (fun h9 => absurd h9 (show ¬ (1 : Int32) = 0 by decide))⟩
      · unfold M_Law_row E_Desk_row P_Ranking_hasRow
        rw [if_neg c1, hr2, if_pos c2]
        rfl
      · unfold M_Model_row M_Model_row_b13 M_Model_row_b18
        rw [if_neg c1, hr3, if_neg (by rw [Int32.lt_iff_toInt_lt]; rw [Int32.le_iff_toInt_le] at c2; omega), p_fails1]
        rfl
    · obtain ⟨i, rfl, hi⟩ := qi_of c1 c2 (by omega)
      obtain ⟨c, hc, e0, e1, e2, e3, e4, e5⟩ := hr4 i hi
      have hlt : nI i < nI r := (qi_lt (by omega) (by omega)).mpr hi
      have hmod : ∀ (k : Nat), k < 5 → ∀ u1 : gSt, u1.1 42 36 = nI r → M_Model_row (nI i) (nI k) u1 = some (u1.2.2.1 62 (5 * i + k), gsF u1 42 41 0) := fun k hk u1 hu => by
        unfold M_Model_row M_Model_row_b18 M_Model_row_b40
        rw [if_neg c1, hu, if_pos hlt, p_fails0, Option.bind_some, if_pos rfl]
        rw [if_neg (show ¬ nI k < 0 by rw [show (0 : Int32) = nI 0 from rfl, qi_lt (by omega) (by omega)]; omega), if_pos (show nI k ≤ (4 : Int32) by rw [show (4 : Int32) = nI 4 from rfl, qi_le (by omega) (by omega)]; omega), p_fails0, Option.bind_some, if_pos rfl]
        have e9 : (5 : Int32) * nI i + nI k = nI (5 * i + k) := by
          rw [show (5 : Int32) = nI 5 from rfl, qi_mul, qi_add]
        rw [e9, gc_t (qi_in (n := gLen 62) (by omega) (show 5 * i + k < 1000 by omega)), qi_ix (by omega), gsF_F]
        rfl
      have hin : ∀ n : Nat, 200 ≤ n → gIn (nI i) n = true := fun n hn => qi_in (by omega) (by omega)
      have hcn : ∀ n : Nat, 200 ≤ n → gIn (u.2.2.1 35 i) n = true := fun n hn => by rw [e0]; exact qi_in (by omega) (by omega)
      have hix : gIx (u.2.2.1 35 i) = c := by rw [e0]; exact qi_ix (by omega)
      have hP : P_Ranking_hasRow (nI i) u = some 1 := by
        unfold P_Ranking_hasRow
        rw [if_neg c1, hr2, if_neg c2]
      have hH : M_Ranking_hasRow (nI i) u = some (1, u) := by
        unfold M_Ranking_hasRow M_Ranking_hasRow_b17
        rw [if_neg c1, hr2, if_neg c2]
        rfl
      have hcls : ∀ (v : Int32), E_Desk_row (nI i) y u = none → M_Desk_row (nI i) y u = some (v, u) → M_Law_row (nI i) y u = some ((0 : Int32), gsL u 66 0 v.toInt64) := fun v w1 w2 => by
        unfold M_Law_row
        rw [w1]
        show (M_Desk_row (nI i) y u).bind _ = _
        rw [w2]
        rfl
      by_cases y0 : y = 0
      · subst y0
        refine Or.inl ⟨(u.2.2.1 28 c).toInt64, hall 0 (u.2.2.1 62 (5 * i)) _ _ (hcls (u.2.2.1 28 c) ?_ ?_) (hmod 0 (by decide) _ hr3) rfl (fun _ => by rw [e1]; rfl)⟩
        · unfold E_Desk_row
          rw [hP, Option.bind_some, if_neg (by decide), gc_t (hin (gLen 35) (by decide)), if_pos rfl, qi_ix (by omega), gc_t (hcn (gLen 28) (by decide))]
        · unfold M_Desk_row
          rw [hH, Option.bind_some, if_neg (show ¬ (1 : Int32) = 0 by decide), gc_t (hin (gLen 35) (by decide)), if_pos rfl, qi_ix (by omega), gc_t (hcn (gLen 28) (by decide)), hix]
      by_cases y1 : y = 1
      · subst y1
        refine Or.inl ⟨(u.2.2.1 29 c).toInt64, hall 0 (u.2.2.1 62 (5 * i + 1)) _ _ (hcls (u.2.2.1 29 c) ?_ ?_) (hmod 1 (by decide) _ hr3) rfl (fun _ => by rw [e2]; rfl)⟩
        · unfold E_Desk_row
          rw [hP, Option.bind_some, if_neg (by decide), gc_t (hin (gLen 35) (by decide)), if_neg y0, if_pos rfl, qi_ix (by omega), gc_t (hcn (gLen 29) (by decide))]
        · unfold M_Desk_row
          rw [hH, Option.bind_some, if_neg (show ¬ (1 : Int32) = 0 by decide), gc_t (hin (gLen 35) (by decide)), if_neg y0, if_pos rfl, qi_ix (by omega), gc_t (hcn (gLen 29) (by decide)), hix]
      by_cases y2 : y = 2
      · subst y2
        refine Or.inl ⟨(u.1 27 11).toInt64, hall 0 (u.2.2.1 62 (5 * i + 2)) _ _ (hcls (u.1 27 11) ?_ ?_) (hmod 2 (by decide) _ hr3) rfl (fun _ => by rw [e3]; rfl)⟩
        · unfold E_Desk_row
          rw [hP, Option.bind_some, if_neg (by decide), gc_t (hin (gLen 35) (by decide)), if_neg y0, if_neg y1, if_pos rfl]
        · unfold M_Desk_row
          rw [hH, Option.bind_some, if_neg (show ¬ (1 : Int32) = 0 by decide), gc_t (hin (gLen 35) (by decide)), if_neg y0, if_neg y1, if_pos rfl]
      by_cases y3 : y = 3
      · subst y3
        refine Or.inl ⟨(u.2.2.1 30 c).toInt64, hall 0 (u.2.2.1 62 (5 * i + 3)) _ _ (hcls (u.2.2.1 30 c) ?_ ?_) (hmod 3 (by decide) _ hr3) rfl (fun _ => by rw [e4]; rfl)⟩
        · unfold E_Desk_row
          rw [hP, Option.bind_some, if_neg (by decide), gc_t (hin (gLen 35) (by decide)), if_neg y0, if_neg y1, if_neg y2, if_pos rfl, qi_ix (by omega), gc_t (hcn (gLen 30) (by decide))]
        · unfold M_Desk_row
          rw [hH, Option.bind_some, if_neg (show ¬ (1 : Int32) = 0 by decide), gc_t (hin (gLen 35) (by decide)), if_neg y0, if_neg y1, if_neg y2, if_pos rfl, qi_ix (by omega), gc_t (hcn (gLen 30) (by decide)), hix]
      by_cases y4 : y = 4
      · subst y4
        refine Or.inl ⟨(u.1 27 10).toInt64, hall 0 (u.2.2.1 62 (5 * i + 4)) _ _ (hcls (u.1 27 10) ?_ ?_) (hmod 4 (by decide) _ hr3) rfl (fun _ => by rw [e5]; rfl)⟩
        · unfold E_Desk_row
          rw [hP, Option.bind_some, if_neg (by decide), gc_t (hin (gLen 35) (by decide)), if_neg y0, if_neg y1, if_neg y2, if_neg y3, if_pos rfl]
        · unfold M_Desk_row
          rw [hH, Option.bind_some, if_neg (show ¬ (1 : Int32) = 0 by decide), gc_t (hin (gLen 35) (by decide)), if_neg y0, if_neg y1, if_neg y2, if_neg y3, if_pos rfl]
      refine Or.inr ⟨2, hall 2 0 u _ ?_ ?_ rfl (fun h9 => absurd h9 (show ¬ (2 : Int32) = 0 by decide))⟩
      · unfold M_Law_row E_Desk_row
        rw [hP, Option.bind_some, if_neg (by decide), gc_t (hin (gLen 35) (by decide)), if_neg y0, if_neg y1, if_neg y2, if_neg y3, if_neg y4]
        rfl
      · have hbad : M_Model_row_b35 (nI i) y (gsF u 42 41 0) = some (0, gsF u 42 41 2) := by
          unfold M_Model_row_b35 M_Model_row_b40
          rw [p_fails1, Option.bind_some, if_neg (show ¬ (1 : Int32) = 0 by decide), gsF_F]
          rfl
        unfold M_Model_row M_Model_row_b18
        rw [if_neg c1, hr3, if_pos hlt, p_fails0, Option.bind_some, if_pos rfl]
        by_cases d1 : y < 0
        · rw [if_pos d1]
          exact hbad
        · have d2 : ¬ y ≤ 4 := by
            rw [Int32.lt_iff_toInt_lt, Int32.toInt_zero] at d1
            rw [Int32.le_iff_toInt_le, show (4 : Int32).toInt = 4 from rfl]
            intro d3
            have w0 : y.toInt ≠ 0 := fun e => y0 (Int32.toInt_inj.mp (by rw [e]; rfl))
            have w1 : y.toInt ≠ 1 := fun e => y1 (Int32.toInt_inj.mp (by rw [e]; rfl))
            have w2 : y.toInt ≠ 2 := fun e => y2 (Int32.toInt_inj.mp (by rw [e]; rfl))
            have w3 : y.toInt ≠ 3 := fun e => y3 (Int32.toInt_inj.mp (by rw [e]; rfl))
            have w4 : y.toInt ≠ 4 := fun e => y4 (Int32.toInt_inj.mp (by rw [e]; rfl))
            omega
          rw [if_neg d1, if_neg d2]
          exact hbad
