/-! Each case keeps it. -/
section
variable {L j : Nat} {xs : Nat → Int32} {u : gSt}
theorem In_c0 (hL : L ≤ 3072) (h : 6 * j + 6 ≤ L) (hI : In0 u) : ∃ w, M_Law_c0 L xs (nI (6 * j)) u = some w ∧ In0 w := by
  obtain ⟨Tx, n, s, T, G, r, m, hT, hC, hM, hR, hS⟩ := id hI
  obtain ⟨⟨t1, t2, t3⟩, ⟨t4, t5, t6⟩⟩ := hT
  rcases p_c0 (xs := xs) hL h t1 t2 t5 with ⟨k1, W, e⟩ | ⟨k1, e⟩
  · refine ⟨_, e, ?_⟩
    generalize hF : (fun i => if n ≤ i ∧ i < n + 20 then W (i - n) else u.2.2.1 43 i) = F
    obtain ⟨w, hw⟩ : ∃ w, w = gsF (gsR (gsF (gsL (tx_st W u n 20) 66 0 (nI (n + 20)).toInt64) 42 41 0) 43 F) 42 1 (nI (n + 20)) := ⟨_, rfl⟩
    rw [← hw]
    have f1 : ∀ a j, a ≠ 2 → (a ≠ 42 ∨ (j ≠ 1 ∧ j ≠ 41)) → w.1 a j = u.1 a j := fun a j e1 e2 => by
      rw [hw, gF_o (by omega)]
      show (gsF (gsL (tx_st W u n 20) 66 0 (nI (n + 20)).toInt64) 42 41 0).1 a j = _
      rw [gF_o (by omega)]
      show (gsF u 2 1 (nI (n + 20))).1 a j = _
      rw [gF_o (by omega)]
    have f2 : ∀ a, a ≠ 3 → a ≠ 43 → w.2.2.1 a = u.2.2.1 a := fun a e1 e2 => by
      rw [hw]
      show (gsR (gsF (gsL (tx_st W u n 20) 66 0 (nI (n + 20)).toInt64) 42 41 0) 43 F).2.2.1 a = _
      rw [gsR_b e2]
      show (tx_st W u n 20).2.2.1 a = _
      unfold tx_st
      rw [gsR_b e1]
      rfl
    have f3 : ∀ a, a ≠ 66 → w.2.2.2 a = u.2.2.2 a := fun a e1 => by
      rw [hw]
      show (gsL (tx_st W u n 20) 66 0 (nI (n + 20)).toInt64).2.2.2 a = _
      rw [gL_o e1]
      rfl
    have g1 : w.1 2 1 = nI (n + 20) := by
      rw [hw]
      rfl
    have g2 : w.1 42 1 = nI (n + 20) := by
      rw [hw, gF_a]
    have g3 : ∀ i, w.2.2.1 3 i = if n ≤ i ∧ i < n + 20 then W (i - n) else u.2.2.1 3 i := fun i => by
      rw [hw]
      show (gsR (gsF (gsL (tx_st W u n 20) 66 0 (nI (n + 20)).toInt64) 42 41 0) 43 F).2.2.1 3 i = _
      rw [gsR_b (by decide)]
      show (tx_st W u n 20).2.2.1 3 i = _
      unfold tx_st
      rw [gsR_a]
    have g4 : ∀ i, w.2.2.1 43 i = if n ≤ i ∧ i < n + 20 then W (i - n) else u.2.2.1 43 i := fun i => by
      rw [hw]
      show (gsR (gsF (gsL (tx_st W u n 20) 66 0 (nI (n + 20)).toInt64) 42 41 0) 43 F).2.2.1 43 i = _
      rw [gsR_a, ← hF]
    refine ⟨fun i => if n ≤ i ∧ i < n + 20 then W (i - n) else Tx i, n + 20, s, T, G, r, m, ⟨⟨k1, g1, fun i hi => ?_⟩, ⟨k1, g2, fun i hi => ?_⟩⟩, IC_F (fun a j e => f1 a j (by omega) (by omega)) (fun a e => f2 a (by omega) (by omega)) (fun a e => f3 a (by omega)) hC, Mg_F (fun j e => f1 42 j (by decide) (by omega)) (fun a e1 e2 => f2 a (by omega) (by omega)) hM, IR_F (f1 0 7 (by decide) (by decide)) (fun j => f1 27 j (by decide) (Or.inl (by decide))) (f1 42 36 (by decide) (by decide)) (fun a e => f2 a (by omega) (by omega)) hR, IS_F (f1 38 3 (by decide) (by decide)) (f1 42 39 (by decide) (by decide)) (f2 39 (by decide) (by decide)) (f2 64 (by decide) (by decide)) hS⟩
    · rw [g3]
      show _ = if n ≤ i ∧ i < n + 20 then W (i - n) else Tx i
      by_cases c : n ≤ i ∧ i < n + 20
      · rw [if_pos c, if_pos c]
      · rw [if_neg c, if_neg c]
        exact t3 i (by omega)
    · rw [g4]
      show _ = if n ≤ i ∧ i < n + 20 then W (i - n) else Tx i
      by_cases c : n ≤ i ∧ i < n + 20
      · rw [if_pos c, if_pos c]
      · rw [if_neg c, if_neg c]
        exact t6 i (by omega)
  · exact ⟨_, e, In_41 hI⟩
theorem In_c1 (hL : L ≤ 3072) (h : 6 * j + 6 ≤ L) (hI : In0 u) : ∃ w, M_Law_c1 L xs (nI (6 * j)) u = some w ∧ In0 w := by
  obtain ⟨Tx, n, s, T, G, r, m, hT, hC, hM, hR, hS⟩ := id hI
  obtain ⟨⟨t1, t2, t3⟩, ⟨t4, t5, t6⟩⟩ := hT
  rcases p_c1 (xs := xs) hL h t1 t2 t5 with ⟨k, k1, e⟩ | e
  · refine ⟨_, e, ?_⟩
    obtain ⟨w, hw⟩ : ∃ w, w = gsF (gsF (gsL (gsF u 2 1 (nI k)) 66 0 (nI k).toInt64) 42 41 0) 42 1 (nI k) := ⟨_, rfl⟩
    rw [← hw]
    have f1 : ∀ a j, a ≠ 2 → (a ≠ 42 ∨ (j ≠ 1 ∧ j ≠ 41)) → w.1 a j = u.1 a j := fun a j e1 e2 => by
      rw [hw, gF_o (by omega), gF_o (by omega)]
      show (gsF u 2 1 (nI k)).1 a j = _
      rw [gF_o (by omega)]
    have f2 : ∀ a, w.2.2.1 a = u.2.2.1 a := fun a => by
      rw [hw]
      rfl
    have f3 : ∀ a, a ≠ 66 → w.2.2.2 a = u.2.2.2 a := fun a e1 => by
      rw [hw]
      show (gsL (gsF u 2 1 (nI k)) 66 0 (nI k).toInt64).2.2.2 a = _
      rw [gL_o e1]
      rfl
    have g1 : w.1 2 1 = nI k := by
      rw [hw]
      rfl
    have g2 : w.1 42 1 = nI k := by
      rw [hw, gF_a]
    exact ⟨Tx, k, s, T, G, r, m, ⟨⟨by omega, g1, fun i hi => by rw [f2]; exact t3 i (by omega)⟩, ⟨by omega, g2, fun i hi => by rw [f2]; exact t6 i (by omega)⟩⟩, IC_F (fun a j e => f1 a j (by omega) (by omega)) (fun a e => f2 a) (fun a e => f3 a (by omega)) hC, Mg_F (fun j e => f1 42 j (by decide) (by omega)) (fun a e1 e2 => f2 a) hM, IR_F (f1 0 7 (by decide) (by decide)) (fun j => f1 27 j (by decide) (Or.inl (by decide))) (f1 42 36 (by decide) (by decide)) (fun a e => f2 a) hR, IS_F (f1 38 3 (by decide) (by decide)) (f1 42 39 (by decide) (by decide)) (f2 39) (f2 64) hS⟩
  · exact ⟨_, e, In_41 hI⟩
theorem In_c2 {x : Int32} (hI : In0 u) : ∃ w, M_Law_c2 L xs x u = some w ∧ In0 w := by
  obtain ⟨Tx, n, s, T, G, r, m, hT, hC, hM, hR, hS⟩ := hI
  obtain ⟨c1, c2, c3, c4, c5, c6, c7⟩ := hC
  obtain ⟨w, s', T', G', e, g', d', m', w5, w6, w1, w2, w7, f⟩ := p_c2 (L := L) (xs := xs) (x := x) hT.1 hT.2 c4 ⟨hM, c5, c6, c7⟩ c3
  obtain ⟨f1, f2, f3⟩ := f
  have q2 : ∀ a, (28 ≤ a ∧ a ≤ 35) ∨ (59 ≤ a ∧ a ≤ 63) ∨ 67 ≤ a → w.2.2.1 a = u.2.2.1 a := fun a e => f2 a (by omega) (by omega) (by omega)
  refine ⟨w, e, Tx, 0, s', T', G', r, m, ⟨⟨by decide, w1, fun i hi => by omega⟩, ⟨by decide, w2, fun i hi => by omega⟩⟩, ⟨w5, w6, g', d', m'.2⟩, m'.1, ⟨fun h => absurd w7 h, iv_rw (fun j => f1 27 j (by decide) (by decide) (by decide) (by decide) (by decide) (by decide) (Or.inl (by decide))) (f1 42 36 (by decide) (by decide) (by decide) (by decide) (by decide) (by decide) (by decide)) q2 hR.2.1, iv_PV q2 hR.2.2⟩, IS_F (f1 38 3 (by decide) (by decide) (by decide) (by decide) (by decide) (by decide) (by decide)) (f1 42 39 (by decide) (by decide) (by decide) (by decide) (by decide) (by decide) (by decide)) (f2 39 (by decide) (by decide) (by decide)) (f2 64 (by decide) (by decide) (by decide)) hS⟩
theorem In_c3 (hL : L ≤ 3072) (h : 6 * j + 6 ≤ L) (hI : In0 u) : ∃ w, M_Law_c3 L xs (nI (6 * j)) u = some w ∧ In0 w := by
  obtain ⟨Tx, n, s, T, G, r, m, hT, hC, hM, hR, hS⟩ := id hI
  rcases p_c3 (xs := xs) hL h hC.1 hC.2.1 with ⟨v, e⟩ | e
  · exact ⟨_, e, In_41 (In_66 hI)⟩
  · exact ⟨_, e, In_41 hI⟩
theorem In_c4 (hL : L ≤ 3072) (h : 6 * j + 6 ≤ L) (hI : In0 u) : ∃ w, M_Law_c4 L xs (nI (6 * j)) u = some w ∧ In0 w := by
  obtain ⟨Tx, n, s, T, G, r, m, hT, hC, hM, hR, hS⟩ := id hI
  rcases p_c4 (xs := xs) hL h hC.2.2.1.1 hC.2.2.2.1.1 hM (by rw [hR.2.1.2.1, hR.2.1.2.2.1]) (by rw [hC.2.2.2.1.2.1.1, hC.2.2.2.2.1.1]) with ⟨v, w, k, e⟩ | e
  · exact ⟨w, e, In_sp hT hC hM hR hS k⟩
  · exact ⟨_, e, In_41 hI⟩
theorem In_c5 (hL : L ≤ 3072) (h : 6 * j + 6 ≤ L) (hI : In0 u) : ∃ w, M_Law_c5 L xs (nI (6 * j)) u = some w ∧ In0 w := by
  obtain ⟨Tx, n, s, T, G, r, m, hT, hC, hM, hR, hS⟩ := id hI
  rcases p_c5 (xs := xs) hL h hC.2.2.1.1 hC.2.2.2.1.1 hM with ⟨v, w, k, e⟩ | ⟨k, e⟩ | ⟨F, v, f, e⟩
  · exact ⟨w, e, In_sp hT hC hM hR hS k⟩
  · exact ⟨_, e, In_41 hI⟩
  · refine ⟨_, e, ?_⟩
    obtain ⟨w, hw⟩ : ∃ w, w = gsR (gsF (gsL (gsQ u 26 F) 66 0 v) 42 41 0) 65 f := ⟨_, rfl⟩
    rw [← hw]
    have f1 : ∀ a j, a ≠ 42 ∨ j ≠ 41 → w.1 a j = u.1 a j := fun a j e1 => by
      rw [hw]
      show (gsF (gsL (gsQ u 26 F) 66 0 v) 42 41 0).1 a j = _
      rw [gF_o e1]
      rfl
    have f2 : ∀ a, a ≠ 65 → w.2.2.1 a = u.2.2.1 a := fun a e1 => by
      rw [hw, gsR_b e1]
      rfl
    have f3 : ∀ a, a ≠ 66 → a ≠ 26 → w.2.2.2 a = u.2.2.2 a := fun a e1 e2 => by
      rw [hw]
      show (gsL (gsQ u 26 F) 66 0 v).2.2.2 a = _
      rw [gL_o e1, gsQ_b e2]
    exact In_W hT hC hR (Mg_F (fun j e => f1 42 j (by omega)) (fun a e1 e2 => f2 a (by omega)) hM) (IS_F (f1 38 3 (by omega)) (f1 42 39 (by omega)) (f2 39 (by decide)) (f2 64 (by decide)) hS) (fun a j e _ => f1 a j (by omega)) (fun a _ e _ _ _ _ _ _ => f2 a e) f3
theorem In_c6 (hL : L ≤ 3072) (h : 6 * j + 6 ≤ L) (hI : In0 u) : ∃ w, M_Law_c6 L xs (nI (6 * j)) u = some w ∧ In0 w := by
  obtain ⟨Tx, n, s, T, G, r, m, hT, hC, hM, hR, hS⟩ := id hI
  obtain ⟨c1, c2, ⟨g1, g2, g3, g4, g5, g6⟩, ⟨c4, c5, c6⟩, c7, c8, c9⟩ := hC
  rcases p_c6 (xs := xs) hL h g1 c4 hM g2 g3 g4 g5 g6 c5 c6 c7 c8 c9 with ⟨v, e⟩ | e
  · exact ⟨_, e, In_41 (In_66 hI)⟩
  · exact ⟨_, e, In_41 hI⟩
theorem In_c7 (hL : L ≤ 3072) (h : 6 * j + 6 ≤ L) (hI : In0 u) : ∃ w, M_Law_c7 L xs (nI (6 * j)) u = some w ∧ In0 w := by
  obtain ⟨Tx, n, s, T, G, r, m, hT, hC, hM, hR, hS⟩ := id hI
  have ht : s_t s ≤ 200 := hC.2.2.1.1.1
  have hd := hC.2.2.2.1.1
  rcases p_c7 (xs := xs) hL h ht hd.1 hM.1 (fun a b ha hb => by
    rw [hM.2.2.2.2.2.1 b a (by omega) (by omega), hd.2.2.2.2.2.1 b a (by omega) (by omega)]
    rfl) with ⟨v, e⟩ | e
  · exact ⟨_, e, In_41 (In_66 hI)⟩
  · exact ⟨_, e, In_41 hI⟩
theorem In_c8 (hL : L ≤ 3072) (h : 6 * j + 6 ≤ L) (hI : In0 u) : ∃ w, M_Law_c8 L xs (nI (6 * j)) u = some w ∧ In0 w := by
  obtain ⟨Tx, n, s, T, G, r, m, hT, hC, hM, hR, hS⟩ := id hI
  have hs := hC.2.2.1.1
  have hd := hC.2.2.2.1.1
  have ht : s_t s ≤ 200 := hs.1
  have hn : s_n s ≤ 200 := hs.2.1
  rcases p_c8 (xs := xs) hL h (Mg_sp hM hs) hd.1 hd.2.1 (fun g y hg hy => by
    rw [hd.2.2.2.2.2.2.2.1 y g (by omega) (by omega), Mg_av hM ht (by omega) (by omega)]) with ⟨v, e⟩ | e
  · exact ⟨_, e, In_sp hT hC hM hR hS (Or.inr rfl)⟩
  · exact ⟨_, e, In_41 hI⟩
theorem In_c9 (hL : L ≤ 3072) (h : 6 * j + 6 ≤ L) (hI : In0 u) : ∃ w, M_Law_c9 L xs (nI (6 * j)) u = some w ∧ In0 w := by
  obtain ⟨Tx, n, s, T, G, r, m, hT, hC, hM, hR, hS⟩ := id hI
  rcases p_c9 (xs := xs) hL h hC.2.2.1.1 hC.2.2.2.1.1 hM hR.1 with ⟨k, e⟩ | ⟨w, r', e, ⟨f1, f2, f3, f4⟩, m', k', rw', pv'⟩
  · exact ⟨_, e, In_41 hI⟩
  · exact ⟨w, e, Tx, n, s, T, G, r', m, IT_F (f1 2 1 (by decide) (by decide) (by decide)) (f1 42 1 (by decide) (by decide) (by decide)) (f3 3 (by decide)) (f3 43 (by decide)) hT, IC_F (fun a j e => f1 a j (by omega) (by omega) (by omega)) (fun a e => f3 a (by omega)) (fun a e => f4 a (by omega)) hC, m', ⟨fun _ => k', rw', pv'⟩, IS_F (f1 38 3 (by decide) (by decide) (by decide)) (f1 42 39 (by decide) (by decide) (by decide)) (f3 39 (by decide)) (f3 64 (by decide)) hS⟩
theorem In_c10 (hL : L ≤ 3072) (h : 6 * j + 6 ≤ L) (hI : In0 u) : ∃ w, M_Law_c10 L xs (nI (6 * j)) u = some w ∧ In0 w := by
  obtain ⟨Tx, n, s, T, G, r, m, hT, hC, hM, hR, hS⟩ := id hI
  rcases p_c10 (xs := xs) hL h hR.2.1 with ⟨v, e⟩ | ⟨k, e⟩
  · exact ⟨_, e, In_41 (In_66 hI)⟩
  · exact ⟨_, e, In_41 hI⟩
theorem In_c11 (hL : L ≤ 3072) (h : 6 * j + 6 ≤ L) (hI : In0 u) : ∃ w, M_Law_c11 L xs (nI (6 * j)) u = some w ∧ In0 w := by
  obtain ⟨Tx, n, s, T, G, r, m, hT, hC, hM, hR, hS⟩ := id hI
  rcases p_c11 (xs := xs) hL h hR.2.1 hR.2.2 with ⟨k, e⟩ | ⟨w, m', e, k1, k2, k3, k4, f1, f2, f3, f4⟩
  · exact ⟨_, e, In_41 hI⟩
  · exact ⟨w, e, In_W hT hC hR (Mg_F (fun j e => f1 42 j (by omega) (by omega)) (fun a e1 e2 => f3 a (by omega) (by omega) (by omega) (by omega) (by omega) (by omega)) hM) ⟨k1, k2, k3, k4⟩ (fun a j e1 e2 => f1 a j e2 (by omega)) (fun a _ _ e3 e4 e5 e6 e7 e8 => f3 a e3 e4 e5 e6 e7 e8) (fun a e _ => f4 a e)⟩
theorem In_c12 (hL : L ≤ 3072) (h : 6 * j + 6 ≤ L) (hI : In0 u) : ∃ w, M_Law_c12 L xs (nI (6 * j)) u = some w ∧ In0 w := by
  obtain ⟨Tx, n, s, T, G, r, m, hT, hC, hM, hR, hS⟩ := id hI
  exact ⟨_, p_c12 (xs := xs) hL h hS.1 hS.2.1 hS.2.2.1 hS.2.2.2, In_41 hI⟩
/-- nothing told yet -/
def s_0 : GS := (0, 0, fun _ _ => false, fun _ _ => false, fun _ _ => false, fun _ => false, fun _ => false, 0, 0)
def n_0 : NS := (0, fun _ => 0, fun _ _ => 0, fun _ => 0)
theorem GA_0 : GA s_0 n_0 n_0 := ⟨⟨by decide, by decide, fun _ _ h => h, fun _ _ h => absurd (show false = true from h) (by decide), fun _ _ _ h => absurd (show false = true from h) (by decide), fun _ => rfl, fun _ _ h => absurd (show false = true from h) (by decide), fun _ h => absurd (show false = true from h) (by decide), fun _ h => absurd (show false = true from h) (by decide), by decide, by decide⟩, ⟨fun i hi => absurd hi (Nat.not_lt_zero _), fun y hy => absurd hy (Nat.not_lt_zero _)⟩, ⟨fun i hi => absurd hi (Nat.not_lt_zero _), fun y hy => absurd hy (Nat.not_lt_zero _)⟩, by decide, rfl, fun i hi => absurd hi (Nat.not_lt_zero _)⟩
theorem iv_gb0 {w : gSt} {r x y : Nat} (h : w.2.2.2 r (4 * x + y / 64) = 0) : gb w r x y = false := by
  unfold gb
  rw [h, lb_0]
/-- a world in which nothing is told -/
theorem In_0 {w : gSt} (f1 : w.1 2 1 = 0 ∧ w.1 42 1 = 0 ∧ w.1 0 5 = 0 ∧ w.1 42 2 = 0 ∧ w.1 0 6 = w.1 42 3 ∧ w.1 4 9 = 0 ∧ w.1 9 3 = 0 ∧ w.1 4 10 = 0 ∧ w.1 4 11 = 0 ∧ w.1 5 3 = 0 ∧ w.1 42 7 = 0 ∧ w.1 42 10 = 0 ∧ w.1 42 11 = 0 ∧ w.1 42 18 = 0 ∧ w.1 42 19 = 0 ∧ w.1 42 17 = 0 ∧ w.1 42 21 = 0 ∧ w.1 0 7 = 0 ∧ w.1 27 13 = 0 ∧ w.1 42 36 = 0 ∧ w.1 38 3 = 0 ∧ w.1 42 39 = 0) (f2 : ∀ a i, 50 ≤ a → a ≤ 53 → i < 40000 → w.2.2.1 a i = 0) (f3 : ∀ i, i < 200 → w.2.2.1 54 i = 0) (f4 : ∀ a i, a = 14 ∨ a = 16 ∨ a = 18 ∨ a = 20 → i < 800 → w.2.2.2 a i = 0) (f5 : ∀ a i, a = 22 ∨ a = 24 → i < 4 → w.2.2.2 a i = 0) : In0 w := by
  obtain ⟨e1, e2, e3, e4, e5, e6, e7, e8, e9, e10, e11, e12, e13, e14, e15, e16, e17, e18, e19, e20, e21, e22⟩ := f1
  refine ⟨fun _ => 0, 0, s_0, n_0, n_0, 0, 0, ⟨⟨by decide, e1, fun i hi => by omega⟩, ⟨by decide, e2, fun i hi => by omega⟩⟩, ⟨by rw [e3, e4], e5, GA_0, ⟨⟨e6, e7, e8, e9, fun x y hx hy => iv_gb0 (f4 14 _ (by omega) (by omega)), fun x y hx hy => iv_gb0 (f4 16 _ (by omega) (by omega)), fun x y hx hy => ?_, fun x y hx hy => ?_, fun y hy => iv_gb0 (f5 22 _ (by omega) (by omega)), fun y hy => iv_gb0 (f5 24 _ (by omega) (by omega))⟩, ⟨e10, fun i hi => absurd hi (Nat.not_lt_zero _)⟩, ⟨e7, fun i hi => absurd hi (Nat.not_lt_zero _)⟩⟩, ⟨e11, fun i hi => absurd hi (Nat.not_lt_zero _)⟩, ⟨e12, fun i hi => absurd hi (Nat.not_lt_zero _)⟩, fun i hi => absurd hi (Nat.not_lt_zero _)⟩, ⟨e13, e12, e14, e15, fun x y hx hy => f2 50 _ (by decide) (by decide) (by omega), fun x y hx hy => f2 51 _ (by decide) (by decide) (by omega), fun x y hx hy => f2 52 _ (by decide) (by decide) (by omega), fun h => absurd e16 h, fun y hy => absurd hy (Nat.not_lt_zero _), fun g hg => f3 g hg, e17, fun g y hg hy _ => f2 53 _ (by decide) (by decide) (by omega)⟩, ⟨fun h => absurd e18 h, ⟨by decide, e19, e20, fun i hi => absurd hi (Nat.not_lt_zero _)⟩, fun i hi => absurd hi (Nat.not_lt_zero _)⟩, ⟨by decide, e21, e22, fun i hi => absurd hi (Nat.not_lt_zero _)⟩⟩
  · rw [iv_gb0 (f4 18 _ (by omega) (by omega))]
    rfl
  · rw [iv_gb0 (f4 20 _ (by omega) (by omega))]
    rfl
theorem In_st : In0 st_u := In_0 ⟨rfl, rfl, rfl, rfl, rfl, rfl, rfl, rfl, rfl, rfl, rfl, rfl, rfl, rfl, rfl, rfl, rfl, rfl, rfl, rfl, rfl, rfl⟩ (fun _ _ _ _ _ => rfl) (fun _ _ => rfl) (fun _ _ _ _ => rfl) (fun _ _ _ _ => rfl)
theorem gF_2 {u : gSt} {a k : Nat} {v : Int32} : (gsF u a k v).2 = u.2 := rfl
theorem md_L {U : gSt} : (md_e U).2.2.2 = U.2.2.2 := rfl
theorem dk_L : (dk_e u).2.2.2 = (bd_e (gsF u 2 1 0)).2.2.2 := rfl
theorem md_00 {U : gSt} {a i : Nat} (h1 : 50 ≤ a) (h2 : a ≤ 53) (hi : i < 40000) : (md_e U).2.2.1 a i = 0 := by
  unfold md_e
  rw [gsR_b (by omega)]
  have : a = 50 ∨ a = 51 ∨ a = 52 ∨ a = 53 := by omega
  rcases this with rfl | rfl | rfl | rfl
  · show (if i < 40000 then (0 : Int32) else (md_c U).2.2.1 50 i) = 0
    exact if_pos hi
  · show (if i < 40000 then (0 : Int32) else (md_c U).2.2.1 51 i) = 0
    exact if_pos hi
  · show (if i < 40000 then (0 : Int32) else (md_c U).2.2.1 52 i) = 0
    exact if_pos hi
  · show (if i < 40000 then (0 : Int32) else (md_c U).2.2.1 53 i) = 0
    exact if_pos hi
theorem md_54 {U : gSt} {i : Nat} (hi : i < 200) : (md_e U).2.2.1 54 i = 0 := by
  unfold md_e
  rw [gsR_a]
  exact if_pos hi
theorem bd_0 {V : gSt} {a i : Nat} (ha : a = 14 ∨ a = 16 ∨ a = 18 ∨ a = 20) (hi : i < 800) : (bd_e V).2.2.2 a i = 0 := by
  unfold bd_e
  rw [gF_2, gF_2, gF_2]
  rcases ha with rfl | rfl | rfl | rfl
  · rw [gsQ_b (by decide), gsQ_b (by decide), gsQ_b (by decide), gsQ_b (by decide), gsQ_b (by decide), gsQ_a]
    exact if_pos hi
  · rw [gsQ_b (by decide), gsQ_b (by decide), gsQ_b (by decide), gsQ_b (by decide), gsQ_a]
    exact if_pos hi
  · rw [gsQ_b (by decide), gsQ_b (by decide), gsQ_b (by decide), gsQ_a]
    exact if_pos hi
  · rw [gsQ_b (by decide), gsQ_b (by decide), gsQ_a]
    exact if_pos hi
theorem bd_4 {V : gSt} {a i : Nat} (ha : a = 22 ∨ a = 24) (hi : i < 4) : (bd_e V).2.2.2 a i = 0 := by
  unfold bd_e
  rw [gF_2, gF_2, gF_2]
  rcases ha with rfl | rfl
  · rw [gsQ_b (by decide), gsQ_a]
    exact if_pos hi
  · rw [gsQ_a]
    exact if_pos hi
theorem In_c13 {x : Int32} : ∃ w, M_Law_c13 L xs x u = some w ∧ In0 w :=
  ⟨_, p_c13, In_0 ⟨rfl, rfl, rfl, rfl, rfl, rfl, rfl, rfl, rfl, rfl, rfl, rfl, rfl, rfl, rfl, rfl, rfl, rfl, rfl, rfl, rfl, rfl⟩ (fun a i h1 h2 hi => md_00 h1 h2 hi) (fun i hi => md_54 hi) (fun a i ha hi => by rw [md_L, dk_L]; exact bd_0 ha hi) (fun a i ha hi => by rw [md_L, dk_L]; exact bd_4 ha hi)⟩
end
