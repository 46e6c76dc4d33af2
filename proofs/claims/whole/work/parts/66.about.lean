/-! The law's case 4: about. -/
theorem p_cands {u : gSt} {s : GS} (hd : Dg u s) (hs : Gd s) : M_Board_candidates u = some (nI (cnt (s_can s) (s_t s)), u) := by
  have ht := hs.1
  have d1 := hd.1
  unfold M_Board_candidates
  have key : gLp M_Board_candidates_L4 (nI (cnt (s_can s) 0), nI 0, u) = some (nI (cnt (s_can s) (s_t s)), u) := by
    refine lp_to (S := fun y => (nI (cnt (s_can s) y), nI y, u)) (k := 0) (N := s_t s) (Nat.zero_le _) (fun y _ hy => ?_) ?_
    · show M_Board_candidates_b4 (nI (cnt (s_can s) y)) (nI y) u = some (Sum.inl (nI (cnt (s_can s) (y + 1)), nI (y + 1), u))
      unfold M_Board_candidates_b4 M_Board_candidates_b23
      rw [d1, if_neg (by rw [qi_le (by omega) (by omega)]; omega), p_cand hd hs hy, Option.bind_some]
      cases hc : s_can s y with
      | false =>
        rw [if_pos (show b2i false = 0 from rfl)]
        show some (Sum.inl (nI (cnt (s_can s) y), nI y + nI 1, u)) = _
        have e := cnt_step hc
        rw [← e, qi_add]
        show _ = some (Sum.inl (nI (cnt (s_can s) y) + nI 0, _, u))
        rw [qi_add]
        rfl
      | true =>
        rw [if_neg (show ¬ b2i true = 0 by decide)]
        show some (Sum.inl (nI (cnt (s_can s) y) + nI 1, nI y + nI 1, u)) = _
        have e := cnt_step hc
        rw [← e, qi_add, qi_add]
        show _ = some (Sum.inl (nI (cnt (s_can s) y) + nI 1, _, u))
        rw [qi_add]
    · show M_Board_candidates_b4 (nI (cnt (s_can s) (s_t s))) (nI (s_t s)) u = _
      unfold M_Board_candidates_b4
      rw [d1, if_pos ((qi_le (by omega) (by omega)).mpr (Nat.le_refl _))]
  have key2 : gLp M_Board_candidates_L4 ((0 : Int32), (0 : Int32), u) = some (nI (cnt (s_can s) (s_t s)), u) := key
  rw [key2]
  rfl
/-- the model as it was, or after spread -/
def sp2 (u v : gSt) (s : GS) : Prop := v = u ∨ v = sp u (s_t s) (s_n s)
theorem sp2_M {u v : gSt} {s : GS} (h : sp2 u v s) (hm : Mg u s) (hs : Gd s) : Mg v s := by
  rcases h with rfl | rfl
  · exact hm
  · exact Mg_after hm hs
theorem sp2_t {u v w : gSt} {s : GS} (h : sp2 u v s) (h2 : sp2 v w s) : sp2 u w s := by
  rcases h with rfl | rfl
  · exact h2
  · rcases h2 with rfl | rfl
    · exact Or.inr rfl
    · exact Or.inr sp_sp
theorem sp2_F {u v : gSt} {s : GS} {b j : Nat} (h : sp2 u v s) (hb : b ≠ 42 ∨ j ≠ 17) : v.1 b j = u.1 b j := by
  rcases h with rfl | rfl
  · rfl
  · exact sp_F hb
theorem sp2_L {u v : gSt} {s : GS} (h : sp2 u v s) : v.2.2.2 = u.2.2.2 := by
  rcases h with rfl | rfl
  · rfl
  · exact sp_66
theorem p_mcands {u : gSt} {s : GS} (hm : Mg u s) (hs : Gd s) : ∃ v, sp2 u v s ∧ gLp M_Model_about_L29 ((3 : Int32), (0 : Int32), (0 : Int32), u) = some ((3 : Int32), nI (cnt (s_can s) (s_t s)), v) := by
  have ht := hs.1
  have key := lp_rel (f := M_Model_about_L29) (Po := fun z => ∃ v, sp2 u v s ∧ z = ((3 : Int32), nI (cnt (s_can s) (s_t s)), v)) (fun k x => ∃ v, sp2 u v s ∧ x = ((3 : Int32), nI (cnt (s_can s) k), nI k, v)) (s_t s) 0 (s_t s) (by omega) ?_ ?_ ((3 : Int32), (0 : Int32), (0 : Int32), u) ⟨u, Or.inl rfl, rfl⟩
  · obtain ⟨y, e, v, hv, rfl⟩ := key
    exact ⟨v, hv, e⟩
  · rintro y x - hy ⟨v, hv, rfl⟩
    have hmv := sp2_M hv hm hs
    obtain ⟨w, hw, e⟩ := p_mcand hmv hs hy
    have m1 := hmv.1
    refine ⟨_, ?_, w, sp2_t hv hw, rfl⟩
    show M_Model_about_b29 (3 : Int32) (nI (cnt (s_can s) y)) (nI y) v = _
    unfold M_Model_about_b29 M_Model_about_b56
    rw [m1, if_neg (by rw [qi_le (by omega) (by omega)]; omega), if_pos rfl, e, Option.bind_some]
    have e9 := cnt_step (P := s_can s) (k := y) rfl
    rw [← e9]
    cases s_can s y with
    | false =>
      rw [if_pos (show b2i false = 0 from rfl)]
      show some (Sum.inl ((3 : Int32), _, nI y + nI 1, w)) = _
      rw [qi_add]
      rfl
    | true =>
      rw [if_neg (show ¬ b2i true = 0 by decide)]
      show some (Sum.inl ((3 : Int32), _, nI y + nI 1, w)) = _
      rw [qi_add]
      rfl
  · rintro x ⟨v, hv, rfl⟩
    have m1 := (sp2_M hv hm hs).1
    refine ⟨_, ?_, v, hv, rfl⟩
    show M_Model_about_b29 (3 : Int32) (nI (cnt (s_can s) (s_t s))) (nI (s_t s)) v = _
    unfold M_Model_about_b29
    rw [m1, if_pos ((qi_le (by omega) (by omega)).mpr (Nat.le_refl _))]
theorem p_mabout {x : Int32} {u : gSt} (h : ¬ x = 3) : gLp M_Model_about_L29 (x, (0 : Int32), (0 : Int32), u) = some (x, (0 : Int32), u) := by
  refine gLp_done ?_
  show M_Model_about_b29 x 0 0 u = _
  unfold M_Model_about_b29
  rw [if_neg h]
  split <;> rfl
theorem qi_to {x : Int32} {n : Nat} (h0 : ¬ x < 0) (h1 : x ≤ nI n) (hn : n < 2147483647) : ∃ k : Nat, x = nI k ∧ k ≤ n := by
  rw [Int32.lt_iff_toInt_lt, Int32.toInt_zero] at h0
  rw [Int32.le_iff_toInt_le, nI_toInt (by omega)] at h1
  refine ⟨x.toInt.toNat, ?_, by omega⟩
  rw [← Int32.toInt_inj, nI_toInt (by omega)]
  omega
/-- about: the answers are one -/
theorem p_c4 {L j : Nat} {xs : Nat → Int32} {u : gSt} {s : GS} (hL : L ≤ 3072) (h : 6 * j + 6 ≤ L) (hs : Gd s) (hd : Dg u s) (hm : Mg u s) (hr : u.1 27 13 = u.1 42 36) (hc : u.1 5 3 = u.1 42 7) : (∃ (v : Int64) (w : gSt), sp2 (gsF (gsL u 66 0 v) 42 41 0) w s ∧ M_Law_c4 L xs (nI (6 * j)) u = some w) ∨ M_Law_c4 L xs (nI (6 * j)) u = some (gsF u 42 41 1) := by
  have hall := fun (k b : Int32) (u1 u2 : gSt) => q_c4 (L := L) (j := j) (xs := xs) (u := u) (u1 := u1) (u2 := u2) (k := k) (b := b) hL h
  generalize M_Law_c4 L xs (nI (6 * j)) u = V at hall ⊢
  generalize xs (gIx (nI (6 * j) + (1 : Int32))) = x at hall
  have hno : (∀ k : Nat, k < 8 → ¬ x = nI k) → M_Law_about x u = some ((1 : Int32), u) := fun hx => by
    unfold M_Law_about E_Desk_about
    rw [if_neg (show ¬ _ = (0 : Int32) from hx 0 (by decide)), if_neg (show ¬ _ = (1 : Int32) from hx 1 (by decide)), if_neg (show ¬ _ = (2 : Int32) from hx 2 (by decide)), if_neg (show ¬ _ = (3 : Int32) from hx 3 (by decide)), if_neg (show ¬ _ = (4 : Int32) from hx 4 (by decide)), if_neg (show ¬ _ = (5 : Int32) from hx 5 (by decide)), if_neg (show ¬ _ = (6 : Int32) from hx 6 (by decide)), if_neg (show ¬ _ = (7 : Int32) from hx 7 (by decide))]
    rfl
  have hne : (∀ k : Nat, k < 8 → ¬ x = nI k) → M_Model_about x u = some ((0 : Int32), gsF u 42 41 1) → (∃ (v : Int64) (w : gSt), sp2 (gsF (gsL u 66 0 v) 42 41 0) w s ∧ V = some w) ∨ V = some (gsF u 42 41 1) := fun hx e => Or.inr (hall 1 0 u _ (hno hx) e rfl (fun h9 => absurd h9 (show ¬ (1 : Int32) = 0 by decide)))
  have hb : ∀ u1 : gSt, M_Model_about_b11 x u1 = some ((0 : Int32), gsF u1 42 41 1) := fun u1 => by
    unfold M_Model_about_b11 M_Model_about_b16
    rw [p_fails1]
    rfl
  by_cases c1 : x < 0
  · refine hne (fun k hk e => ?_) ?_
    · subst e
      rw [show (0 : Int32) = nI 0 from rfl, qi_lt (by omega) (by omega)] at c1
      omega
    · unfold M_Model_about
      rw [if_pos c1]
      exact hb u
  · by_cases c2 : x ≤ (7 : Int32)
    · obtain ⟨k, rfl, hk⟩ := qi_to (n := 7) c1 c2 (by decide)
      have hmod : ∀ u1 : gSt, M_Model_about (nI k) u1 = M_Model_about_b16 (nI k) 0 u1 := fun u1 => by
        unfold M_Model_about
        rw [if_neg c1, if_pos c2]
      have hy : ∀ (b : Int32), M_Law_about (nI k) u = some ((0 : Int32), gsL u 66 0 b.toInt64) → (∃ w, sp2 (gsF (gsL u 66 0 b.toInt64) 42 41 0) w s ∧ M_Model_about_b16 (nI k) 0 (gsL u 66 0 b.toInt64) = some (b, w)) → (∃ (v : Int64) (w : gSt), sp2 (gsF (gsL u 66 0 v) 42 41 0) w s ∧ V = some w) ∨ V = some (gsF u 42 41 1) := fun b e1 e2 => by
        obtain ⟨w, hw, e2⟩ := e2
        refine Or.inl ⟨_, w, hw, hall 0 b _ w e1 (by rw [hmod]; exact e2) ?_ (fun _ => ?_)⟩
        · rw [sp2_F hw (by omega)]
          rfl
        · rw [sp2_L hw]
          rfl
      have hp : ∀ (b : Int32) (v : Int64), ¬ nI k = 3 → (if nI k = (0 : Int32) then some (u.1 42 11, gsF (gsL u 66 0 v) 42 41 0) else if nI k = (1 : Int32) then some (u.1 42 10, gsF (gsL u 66 0 v) 42 41 0) else if nI k = (2 : Int32) then some (u.1 42 21, gsF (gsL u 66 0 v) 42 41 0) else if nI k = (3 : Int32) then some ((0 : Int32), gsF (gsL u 66 0 v) 42 41 0) else if nI k = (4 : Int32) then some (u.1 42 36, gsF (gsL u 66 0 v) 42 41 0) else if nI k = (5 : Int32) then some (u.1 42 18, gsF (gsL u 66 0 v) 42 41 0) else if nI k = (6 : Int32) then some (u.1 42 19, gsF (gsL u 66 0 v) 42 41 0) else some (u.1 42 7, gsF (gsL u 66 0 v) 42 41 0)) = some (b, gsF (gsL u 66 0 v) 42 41 0) → M_Model_about_b16 (nI k) 0 (gsL u 66 0 v) = some (b, gsF (gsL u 66 0 v) 42 41 0) := fun b v h3 e => by
        unfold M_Model_about_b16
        rw [p_fails0, Option.bind_some, if_pos rfl, p_mabout h3, Option.bind_some]
        exact e
      obtain ⟨m1, m2, m3, m4, m5, m6, m7, m8, m9, m10, m11, m12⟩ := hm
      obtain ⟨d1, d2, d3, d4, d5, d6, d7, d8, d9, d10⟩ := hd
      have hk8 : k = 0 ∨ k = 1 ∨ k = 2 ∨ k = 3 ∨ k = 4 ∨ k = 5 ∨ k = 6 ∨ k = 7 := by omega
      have hm0 : Mg u s := ⟨m1, m2, m3, m4, m5, m6, m7, m8, m9, m10, m11, m12⟩
      have hd0 : Dg u s := ⟨d1, d2, d3, d4, d5, d6, d7, d8, d9, d10⟩
      rcases hk8 with rfl | rfl | rfl | rfl | rfl | rfl | rfl | rfl
      · exact hy (u.1 4 9) rfl ⟨_, Or.inl rfl, hp _ _ (by decide) (by rw [d1, ← m1]; rfl)⟩
      · exact hy (u.1 9 3) rfl ⟨_, Or.inl rfl, hp _ _ (by decide) (by rw [d2, ← m2]; rfl)⟩
      · refine hy (u.1 42 21) ?_ ⟨_, Or.inl rfl, hp _ _ (by decide) rfl⟩
        show ((M_Board_studied u).bind fun q68 => some (q68.1, q68.2)).bind _ = _
        rw [p_studied hd0 hs, m11]
        rfl
      · refine hy (nI (cnt (s_can s) (s_t s))) ?_ ?_
        · show ((M_Board_candidates u).bind fun q76 => some (q76.1, q76.2)).bind _ = _
          rw [p_cands hd0 hs]
          rfl
        · obtain ⟨w, hw, e⟩ := p_mcands (u := gsF (gsL u 66 0 (nI (cnt (s_can s) (s_t s))).toInt64) 42 41 0) (s := s) hm0 hs
          refine ⟨w, hw, ?_⟩
          unfold M_Model_about_b16
          rw [p_fails0, Option.bind_some, if_pos rfl]
          show (gLp M_Model_about_L29 ((3 : Int32), (0 : Int32), (0 : Int32), _)).bind _ = _
          rw [e]
          rfl
      · exact hy (u.1 27 13) rfl ⟨_, Or.inl rfl, hp _ _ (by decide) (by rw [hr]; rfl)⟩
      · exact hy (u.1 4 10) rfl ⟨_, Or.inl rfl, hp _ _ (by decide) (by rw [d3, ← m3]; rfl)⟩
      · exact hy (u.1 4 11) rfl ⟨_, Or.inl rfl, hp _ _ (by decide) (by rw [d4, ← m4]; rfl)⟩
      · exact hy (u.1 5 3) rfl ⟨_, Or.inl rfl, hp _ _ (by decide) (by rw [hc]; rfl)⟩
    · refine hne (fun k hk e => ?_) ?_
      · subst e
        rw [show (7 : Int32) = nI 7 from rfl, qi_le (by omega) (by omega)] at c2
        omega
      · unfold M_Model_about
        rw [if_neg c1, if_neg c2]
        exact hb u
