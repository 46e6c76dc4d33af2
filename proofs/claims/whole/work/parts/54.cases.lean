/-! The law's cases 0 (feed), 1 (trim), 3 (fault). -/
theorem p_g {j r L : Nat} (hL : L ≤ 3072) (h : 6 * j + 6 ≤ L) (hr : r < 6) : gIn (nI (6 * j) + nI r) L = true := by
  rw [qi_add]
  exact qi_in (by omega) (by omega)
theorem p_g1 {j L : Nat} (hL : L ≤ 3072) (h : 6 * j + 6 ≤ L) : gIn (nI (6 * j) + (1 : Int32)) L = true := p_g (r := 1) hL h (by decide)
theorem p_g2 {j L : Nat} (hL : L ≤ 3072) (h : 6 * j + 6 ≤ L) : gIn (nI (6 * j) + (2 : Int32)) L = true := p_g (r := 2) hL h (by decide)
theorem p_g3 {j L : Nat} (hL : L ≤ 3072) (h : 6 * j + 6 ≤ L) : gIn (nI (6 * j) + (3 : Int32)) L = true := p_g (r := 3) hL h (by decide)
theorem p_g4 {j L : Nat} (hL : L ≤ 3072) (h : 6 * j + 6 ≤ L) : gIn (nI (6 * j) + (4 : Int32)) L = true := p_g (r := 4) hL h (by decide)
theorem p_g5 {j L : Nat} (hL : L ≤ 3072) (h : 6 * j + 6 ≤ L) : gIn (nI (6 * j) + (5 : Int32)) L = true := p_g (r := 5) hL h (by decide)
theorem p_cmp {x : Int64} : lg_cmp x x = 0 := by
  unfold lg_cmp
  rw [if_neg (by rw [gt_iff_lt, Int64.lt_iff_toInt_lt]; omega), if_pos rfl]
/-- the end of a case: the model's throw is the class's, the answers are one -/
theorem p_tail {k b : Int32} {u2 : gSt} (h1 : u2.1 42 41 = k) (h2 : k = 0 → u2.2.2.2 66 0 = b.toInt64) : ((M_Model_thrown u2).bind fun q => if q.1 = k then (if k = (0 : Int32) then (gc (gIn (0 : Int32) (gLen 66)) <| if (lg_cmp (q.2.2.2.2 66 (gIx (0 : Int32))) b.toInt64) = (0 : Int32) then (some q.2) else (none)) else (some q.2)) else (none)) = some u2 := by
  unfold M_Model_thrown
  show (if u2.1 42 41 = k then _ else _) = _
  rw [if_pos h1]
  by_cases hk : k = 0
  · rw [if_pos hk, gc_t (by decide)]
    show (if lg_cmp (u2.2.2.2 66 0) b.toInt64 = 0 then _ else _) = _
    rw [h2 hk, p_cmp, if_pos rfl]
  · rw [if_neg hk]
theorem p_tailZ {k b : Int32} {u2 : gSt} (h1 : u2.1 42 41 = k) (h2 : k = 0 → u2.2.2.2 66 0 = if b = 0 then 0 else 1) : ((M_Model_thrown u2).bind fun q => if q.1 = k then (if k = (0 : Int32) then (gc (gIn (0 : Int32) (gLen 66)) <| if b = (0 : Int32) then (if (lg_cmp (q.2.2.2.2 66 (gIx (0 : Int32))) (0 : Int64)) = (0 : Int32) then (some q.2) else (none)) else (if (lg_cmp (q.2.2.2.2 66 (gIx (0 : Int32))) (1 : Int64)) = (0 : Int32) then (some q.2) else (none))) else (some q.2)) else (none)) = some u2 := by
  unfold M_Model_thrown
  show (if u2.1 42 41 = k then _ else _) = _
  rw [if_pos h1]
  by_cases hk : k = 0
  · rw [if_pos hk, gc_t (by decide)]
    have h3 := h2 hk
    by_cases hb : b = 0
    · rw [if_pos hb] at h3 ⊢
      show (if lg_cmp (u2.2.2.2 66 0) 0 = 0 then _ else _) = _
      rw [h3, p_cmp, if_pos rfl]
    · rw [if_neg hb] at h3 ⊢
      show (if lg_cmp (u2.2.2.2 66 0) 1 = 0 then _ else _) = _
      rw [h3, p_cmp, if_pos rfl]
  · rw [if_neg hk]
theorem q_c0 {L j : Nat} {xs : Nat → Int32} {u u1 u2 : gSt} {k b : Int32} (hL : L ≤ 3072) (h : 6 * j + 6 ≤ L) (e1 : M_Law_feed (xs (gIx (nI (6 * j) + (1 : Int32)))) (xs (gIx (nI (6 * j) + (2 : Int32)))) (xs (gIx (nI (6 * j) + (3 : Int32)))) (xs (gIx (nI (6 * j) + (4 : Int32)))) (xs (gIx (nI (6 * j) + (5 : Int32)))) u = some (k, u1)) (e2 : M_Model_feed (xs (gIx (nI (6 * j) + (1 : Int32)))) (xs (gIx (nI (6 * j) + (2 : Int32)))) (xs (gIx (nI (6 * j) + (3 : Int32)))) (xs (gIx (nI (6 * j) + (4 : Int32)))) (xs (gIx (nI (6 * j) + (5 : Int32)))) u1 = some (b, u2)) (h3 : u2.1 42 41 = k) (h4 : k = 0 → u2.2.2.2 66 0 = b.toInt64) : M_Law_c0 L xs (nI (6 * j)) u = some u2 := by
  unfold M_Law_c0
  rw [gc_t (p_g1 hL h), gc_t (p_g2 hL h), gc_t (p_g3 hL h), gc_t (p_g4 hL h), gc_t (p_g5 hL h), e1, Option.bind_some, gc_t (p_g1 hL h), gc_t (p_g2 hL h), gc_t (p_g3 hL h), gc_t (p_g4 hL h), gc_t (p_g5 hL h), e2, Option.bind_some]
  exact p_tail h3 h4
theorem q_c1 {L j : Nat} {xs : Nat → Int32} {u u1 u2 : gSt} {k b : Int32} (hL : L ≤ 3072) (h : 6 * j + 6 ≤ L) (e1 : M_Law_trim (xs (gIx (nI (6 * j) + (1 : Int32)))) u = some (k, u1)) (e2 : M_Model_trim (xs (gIx (nI (6 * j) + (1 : Int32)))) u1 = some (b, u2)) (h3 : u2.1 42 41 = k) (h4 : k = 0 → u2.2.2.2 66 0 = b.toInt64) : M_Law_c1 L xs (nI (6 * j)) u = some u2 := by
  unfold M_Law_c1
  rw [gc_t (p_g1 hL h), e1, Option.bind_some, gc_t (p_g1 hL h), e2, Option.bind_some]
  exact p_tail h3 h4
theorem q_c3 {L j : Nat} {xs : Nat → Int32} {u u1 u2 : gSt} {k b : Int32} (hL : L ≤ 3072) (h : 6 * j + 6 ≤ L) (e1 : M_Law_fault (xs (gIx (nI (6 * j) + (1 : Int32)))) u = some (k, u1)) (e2 : M_Model_fault (xs (gIx (nI (6 * j) + (1 : Int32)))) u1 = some (b, u2)) (h3 : u2.1 42 41 = k) (h4 : k = 0 → u2.2.2.2 66 0 = b.toInt64) : M_Law_c3 L xs (nI (6 * j)) u = some u2 := by
  unfold M_Law_c3
  rw [gc_t (p_g1 hL h), e1, Option.bind_some, gc_t (p_g1 hL h), e2, Option.bind_some]
  exact p_tail h3 h4
theorem q_c4 {L j : Nat} {xs : Nat → Int32} {u u1 u2 : gSt} {k b : Int32} (hL : L ≤ 3072) (h : 6 * j + 6 ≤ L) (e1 : M_Law_about (xs (gIx (nI (6 * j) + (1 : Int32)))) u = some (k, u1)) (e2 : M_Model_about (xs (gIx (nI (6 * j) + (1 : Int32)))) u1 = some (b, u2)) (h3 : u2.1 42 41 = k) (h4 : k = 0 → u2.2.2.2 66 0 = b.toInt64) : M_Law_c4 L xs (nI (6 * j)) u = some u2 := by
  unfold M_Law_c4
  rw [gc_t (p_g1 hL h), e1, Option.bind_some, gc_t (p_g1 hL h), e2, Option.bind_some]
  exact p_tail h3 h4
theorem q_c5 {L j : Nat} {xs : Nat → Int32} {u u1 u2 : gSt} {k b : Int32} (hL : L ≤ 3072) (h : 6 * j + 6 ≤ L) (e1 : M_Law_term (xs (gIx (nI (6 * j) + (1 : Int32)))) (xs (gIx (nI (6 * j) + (2 : Int32)))) u = some (k, u1)) (e2 : M_Model_term (xs (gIx (nI (6 * j) + (1 : Int32)))) (xs (gIx (nI (6 * j) + (2 : Int32)))) u1 = some (b, u2)) (h3 : u2.1 42 41 = k) (h4 : k = 0 → u2.2.2.2 66 0 = b.toInt64) : M_Law_c5 L xs (nI (6 * j)) u = some u2 := by
  unfold M_Law_c5
  rw [gc_t (p_g1 hL h), gc_t (p_g2 hL h), e1, Option.bind_some, gc_t (p_g1 hL h), gc_t (p_g2 hL h), e2, Option.bind_some]
  exact p_tail h3 h4
theorem q_c7 {L j : Nat} {xs : Nat → Int32} {u u1 u2 : gSt} {k b : Int32} (hL : L ≤ 3072) (h : 6 * j + 6 ≤ L) (e1 : M_Law_isAbove (xs (gIx (nI (6 * j) + (1 : Int32)))) (xs (gIx (nI (6 * j) + (2 : Int32)))) u = some (k, u1)) (e2 : M_Model_isAbove (xs (gIx (nI (6 * j) + (1 : Int32)))) (xs (gIx (nI (6 * j) + (2 : Int32)))) u1 = some (b, u2)) (h3 : u2.1 42 41 = k) (h4 : k = 0 → u2.2.2.2 66 0 = if b = 0 then 0 else 1) : M_Law_c7 L xs (nI (6 * j)) u = some u2 := by
  unfold M_Law_c7
  rw [gc_t (p_g1 hL h), gc_t (p_g2 hL h), e1, Option.bind_some, gc_t (p_g1 hL h), gc_t (p_g2 hL h), e2, Option.bind_some]
  exact p_tailZ h3 h4
theorem q_c8 {L j : Nat} {xs : Nat → Int32} {u u1 u2 : gSt} {k b : Int32} (hL : L ≤ 3072) (h : 6 * j + 6 ≤ L) (e1 : M_Law_isAt (xs (gIx (nI (6 * j) + (1 : Int32)))) (xs (gIx (nI (6 * j) + (2 : Int32)))) u = some (k, u1)) (e2 : M_Model_isAt (xs (gIx (nI (6 * j) + (1 : Int32)))) (xs (gIx (nI (6 * j) + (2 : Int32)))) u1 = some (b, u2)) (h3 : u2.1 42 41 = k) (h4 : k = 0 → u2.2.2.2 66 0 = if b = 0 then 0 else 1) : M_Law_c8 L xs (nI (6 * j)) u = some u2 := by
  unfold M_Law_c8
  rw [gc_t (p_g1 hL h), gc_t (p_g2 hL h), e1, Option.bind_some, gc_t (p_g1 hL h), gc_t (p_g2 hL h), e2, Option.bind_some]
  exact p_tailZ h3 h4
theorem q_c9 {L j : Nat} {xs : Nat → Int32} {u u1 u2 : gSt} {k b : Int32} (hL : L ≤ 3072) (h : 6 * j + 6 ≤ L) (e1 : M_Law_report (xs (gIx (nI (6 * j) + (1 : Int32)))) (xs (gIx (nI (6 * j) + (2 : Int32)))) (xs (gIx (nI (6 * j) + (3 : Int32)))) u = some (k, u1)) (e2 : M_Model_report (xs (gIx (nI (6 * j) + (1 : Int32)))) (xs (gIx (nI (6 * j) + (2 : Int32)))) (xs (gIx (nI (6 * j) + (3 : Int32)))) u1 = some (b, u2)) (h3 : u2.1 42 41 = k) (h4 : k = 0 → u2.2.2.2 66 0 = b.toInt64) : M_Law_c9 L xs (nI (6 * j)) u = some u2 := by
  unfold M_Law_c9
  rw [gc_t (p_g1 hL h), gc_t (p_g2 hL h), gc_t (p_g3 hL h), e1, Option.bind_some, gc_t (p_g1 hL h), gc_t (p_g2 hL h), gc_t (p_g3 hL h), e2, Option.bind_some]
  exact p_tail h3 h4
theorem q_c10 {L j : Nat} {xs : Nat → Int32} {u u1 u2 : gSt} {k b : Int32} (hL : L ≤ 3072) (h : 6 * j + 6 ≤ L) (e1 : M_Law_row (xs (gIx (nI (6 * j) + (1 : Int32)))) (xs (gIx (nI (6 * j) + (2 : Int32)))) u = some (k, u1)) (e2 : M_Model_row (xs (gIx (nI (6 * j) + (1 : Int32)))) (xs (gIx (nI (6 * j) + (2 : Int32)))) u1 = some (b, u2)) (h3 : u2.1 42 41 = k) (h4 : k = 0 → u2.2.2.2 66 0 = b.toInt64) : M_Law_c10 L xs (nI (6 * j)) u = some u2 := by
  unfold M_Law_c10
  rw [gc_t (p_g1 hL h), gc_t (p_g2 hL h), e1, Option.bind_some, gc_t (p_g1 hL h), gc_t (p_g2 hL h), e2, Option.bind_some]
  exact p_tail h3 h4
theorem q_c11 {L j : Nat} {xs : Nat → Int32} {u u1 u2 : gSt} {k b : Int32} (hL : L ≤ 3072) (h : 6 * j + 6 ≤ L) (e1 : M_Law_print (xs (gIx (nI (6 * j) + (1 : Int32)))) (xs (gIx (nI (6 * j) + (2 : Int32)))) (xs (gIx (nI (6 * j) + (3 : Int32)))) u = some (k, u1)) (e2 : M_Model_print (xs (gIx (nI (6 * j) + (1 : Int32)))) (xs (gIx (nI (6 * j) + (2 : Int32)))) (xs (gIx (nI (6 * j) + (3 : Int32)))) u1 = some (b, u2)) (h3 : u2.1 42 41 = k) (h4 : k = 0 → u2.2.2.2 66 0 = b.toInt64) : M_Law_c11 L xs (nI (6 * j)) u = some u2 := by
  unfold M_Law_c11
  rw [gc_t (p_g1 hL h), gc_t (p_g2 hL h), gc_t (p_g3 hL h), e1, Option.bind_some, gc_t (p_g1 hL h), gc_t (p_g2 hL h), gc_t (p_g3 hL h), e2, Option.bind_some]
  exact p_tail h3 h4
theorem p_Law_feed {x1 x2 x3 x4 x5 : Int32} {u : gSt} {n : Nat} (hn : u.1 2 1 = nI n) (h : n + 20 ≤ 40000) : M_Law_feed x1 x2 x3 x4 x5 u = some ((0 : Int32), gsL (tx_st (bw x1 x2 x3 x4 x5) u n 20) 66 0 (nI (n + 20)).toInt64) := by
  unfold M_Law_feed E_Desk_feed
  have hle : u.1 2 1 + (20 : Int32) ≤ (40000 : Int32) := by
    rw [hn, show (20 : Int32) = nI 20 from rfl, show (40000 : Int32) = nI 40000 from rfl, qi_add]
    exact (qi_le (by omega) (by omega)).mpr h
  rw [if_pos hle]
  show (M_Desk_feed x1 x2 x3 x4 x5 u).bind _ = _
  rw [p_Desk_feed hn h]
  rfl
theorem p_Law_feedX {x1 x2 x3 x4 x5 : Int32} {u : gSt} {n : Nat} (hn : u.1 2 1 = nI n) (hm : n ≤ 40000) (h : 40000 < n + 20) : M_Law_feed x1 x2 x3 x4 x5 u = some ((1 : Int32), u) := by
  unfold M_Law_feed E_Desk_feed
  have hle : ¬ u.1 2 1 + (20 : Int32) ≤ (40000 : Int32) := by
    rw [hn, show (20 : Int32) = nI 20 from rfl, show (40000 : Int32) = nI 40000 from rfl, qi_add, qi_le (by omega) (by omega)]
    omega
  rw [if_neg hle]
  rfl
theorem p_Model_feed {x1 x2 x3 x4 x5 : Int32} {u : gSt} {n : Nat} (hn : u.1 42 1 = nI n) (h : n + 20 ≤ 40000) : M_Model_feed x1 x2 x3 x4 x5 u = some (nI (n + 20), gsF (gsR (gsF u 42 41 0) 43 (fun i => if n ≤ i ∧ i < n + 20 then bw x1 x2 x3 x4 x5 (i - n) else u.2.2.1 43 i)) 42 1 (nI (n + 20))) := by
  unfold M_Model_feed M_Model_feed_b18
  have hle : u.1 42 1 + (20 : Int32) ≤ (40000 : Int32) := by
    rw [hn, show (20 : Int32) = nI 20 from rfl, show (40000 : Int32) = nI 40000 from rfl, qi_add]
    exact (qi_le (by omega) (by omega)).mpr h
  rw [if_pos hle, p_fails0]
  show (gLp M_Model_feed_L30 (x1, x2, x3, x4, x5, (0 : Int32), gsF u 42 41 0)).bind _ = _
  rw [p_Model_feedL (u := gsF u 42 41 0) (n := n) hn h]
  show some (u.1 42 1 + nI 20, gsF _ 42 1 (u.1 42 1 + nI 20)) = _
  rw [hn, qi_add]
  rfl
theorem p_Model_feedX {x1 x2 x3 x4 x5 : Int32} {u : gSt} {n : Nat} (hn : u.1 42 1 = nI n) (hm : n ≤ 40000) (h : 40000 < n + 20) : M_Model_feed x1 x2 x3 x4 x5 u = some ((0 : Int32), gsF u 42 41 1) := by
  unfold M_Model_feed M_Model_feed_b18
  have hle : ¬ u.1 42 1 + (20 : Int32) ≤ (40000 : Int32) := by
    rw [hn, show (20 : Int32) = nI 20 from rfl, show (40000 : Int32) = nI 40000 from rfl, qi_add, qi_le (by omega) (by omega)]
    omega
  rw [if_neg hle, p_fails1]
  rfl
/-- feed: both texts grow by the same twenty bytes, or neither -/
theorem p_c0 {L j n : Nat} {xs : Nat → Int32} {u : gSt} (hL : L ≤ 3072) (h : 6 * j + 6 ≤ L) (hn : n ≤ 40000) (h1 : u.1 2 1 = nI n) (h2 : u.1 42 1 = nI n) : (n + 20 ≤ 40000 ∧ ∃ W : Nat → Int32, M_Law_c0 L xs (nI (6 * j)) u = some (gsF (gsR (gsF (gsL (tx_st W u n 20) 66 0 (nI (n + 20)).toInt64) 42 41 0) 43 (fun i => if n ≤ i ∧ i < n + 20 then W (i - n) else u.2.2.1 43 i)) 42 1 (nI (n + 20)))) ∨ (40000 < n + 20 ∧ M_Law_c0 L xs (nI (6 * j)) u = some (gsF u 42 41 1)) := by
  by_cases h3 : n + 20 ≤ 40000
  · exact Or.inl ⟨h3, _, q_c0 hL h (p_Law_feed h1 h3) (p_Model_feed (n := n) (show (gsL (tx_st _ u n 20) 66 0 _).1 42 1 = nI n from h2) h3) rfl (fun _ => rfl)⟩
  · exact Or.inr ⟨by omega, q_c0 hL h (p_Law_feedX h1 hn (by omega)) (p_Model_feedX h2 hn (by omega)) rfl (fun h9 => absurd h9 (show ¬ (1 : Int32) = 0 by decide))⟩
/-- trim: both texts shrink alike, or neither -/
theorem p_c1 {L j n : Nat} {xs : Nat → Int32} {u : gSt} (hL : L ≤ 3072) (h : 6 * j + 6 ≤ L) (hn : n ≤ 40000) (h1 : u.1 2 1 = nI n) (h2 : u.1 42 1 = nI n) : (∃ m : Nat, m ≤ n ∧ M_Law_c1 L xs (nI (6 * j)) u = some (gsF (gsF (gsL (gsF u 2 1 (nI m)) 66 0 (nI m).toInt64) 42 41 0) 42 1 (nI m))) ∨ M_Law_c1 L xs (nI (6 * j)) u = some (gsF u 42 41 1) := by
  have hall := fun (k b : Int32) (u1 u2 : gSt) => q_c1 (L := L) (j := j) (xs := xs) (u := u) (u1 := u1) (u2 := u2) (k := k) (b := b) hL h
  generalize M_Law_c1 L xs (nI (6 * j)) u = V at hall ⊢
  generalize xs (gIx (nI (6 * j) + (1 : Int32))) = x at hall
  have hno : M_Law_trim x u = some ((1 : Int32), u) → M_Model_trim x u = some ((0 : Int32), gsF u 42 41 1) → (∃ m : Nat, m ≤ n ∧ V = some (gsF (gsF (gsL (gsF u 2 1 (nI m)) 66 0 (nI m).toInt64) 42 41 0) 42 1 (nI m))) ∨ V = some (gsF u 42 41 1) := fun e1 e2 => Or.inr (hall 1 0 _ _ e1 e2 rfl (fun h9 => absurd h9 (show ¬ (1 : Int32) = 0 by decide)))
  by_cases c1 : x < 0
  · refine hno ?_ ?_
    · unfold M_Law_trim E_Desk_trim
      rw [if_pos c1]
      rfl
    · unfold M_Model_trim M_Model_trim_b19 M_Model_trim_b24
      rw [if_pos c1, p_fails1]
      rfl
  · by_cases c2 : (20 : Int32) < x
    · refine hno ?_ ?_
      · unfold M_Law_trim E_Desk_trim
        rw [if_neg c1, if_pos c2]
        rfl
      · unfold M_Model_trim M_Model_trim_b19 M_Model_trim_b24
        rw [if_neg c1, if_pos c2, p_fails1]
        rfl
    · by_cases c3 : x ≤ nI n
      · have hx : ∃ k : Nat, x = nI k ∧ k ≤ n := by
          rw [Int32.lt_iff_toInt_lt, Int32.toInt_zero] at c1
          rw [Int32.le_iff_toInt_le, nI_toInt (by omega)] at c3
          refine ⟨x.toInt.toNat, ?_, by omega⟩
          rw [← Int32.toInt_inj, nI_toInt (by omega)]
          omega
        obtain ⟨k, rfl, hk⟩ := hx
        have hsub : nI n - nI k = nI (n - k) := by
          rw [← Int32.toInt_inj, pk_sub_toInt (by omega) (by omega), nI_toInt (by omega)]
          omega
        refine Or.inl ⟨n - k, by omega, ?_⟩
        have e1 : M_Law_trim (nI k) u = some ((0 : Int32), gsL (gsF u 2 1 (nI (n - k))) 66 0 (nI (n - k)).toInt64) := by
          unfold M_Law_trim E_Desk_trim M_Desk_trim
          rw [if_neg c1, if_neg c2, h1, if_pos c3, if_neg c1, if_neg c2, if_pos c3, hsub]
          rfl
        have e2 : M_Model_trim (nI k) (gsL (gsF u 2 1 (nI (n - k))) 66 0 (nI (n - k)).toInt64) = some (nI (n - k), gsF (gsF (gsL (gsF u 2 1 (nI (n - k))) 66 0 (nI (n - k)).toInt64) 42 41 0) 42 1 (nI (n - k))) := by
          unfold M_Model_trim M_Model_trim_b24
          rw [if_neg c1, if_neg c2, if_pos (show nI k ≤ (gsL (gsF u 2 1 (nI (n - k))) 66 0 (nI (n - k)).toInt64).1 42 1 by show nI k ≤ u.1 42 1; rw [h2]; exact c3), p_fails0]
          show some (u.1 42 1 - nI k, gsF _ 42 1 (u.1 42 1 - nI k)) = _
          rw [h2, hsub]
        exact hall 0 _ _ _ e1 e2 rfl (fun _ => rfl)
      · refine hno ?_ ?_
        · unfold M_Law_trim E_Desk_trim
          rw [if_neg c1, if_neg c2, h1, if_neg c3]
          rfl
        · unfold M_Model_trim M_Model_trim_b19 M_Model_trim_b24
          rw [if_neg c1, if_neg c2, h2, if_neg c3, p_fails1]
          rfl
/-- fault: the two answers are one -/
theorem p_c3 {L j : Nat} {xs : Nat → Int32} {u : gSt} (hL : L ≤ 3072) (h : 6 * j + 6 ≤ L) (h1 : u.1 0 5 = u.1 42 2) (h2 : u.1 0 6 = u.1 42 3) : (∃ v : Int64, M_Law_c3 L xs (nI (6 * j)) u = some (gsF (gsL u 66 0 v) 42 41 0)) ∨ M_Law_c3 L xs (nI (6 * j)) u = some (gsF u 42 41 1) := by
  have hall := fun (k b : Int32) (u1 u2 : gSt) => q_c3 (L := L) (j := j) (xs := xs) (u := u) (u1 := u1) (u2 := u2) (k := k) (b := b) hL h
  generalize M_Law_c3 L xs (nI (6 * j)) u = V at hall ⊢
  generalize xs (gIx (nI (6 * j) + (1 : Int32))) = x at hall
  by_cases c0 : x = 0
  · subst c0
    refine Or.inl ⟨(u.1 0 5).toInt64, hall 0 (u.1 42 2) (gsL u 66 0 (u.1 0 5).toInt64) _ rfl ?_ rfl (fun _ => by rw [← h1]; rfl)⟩
    unfold M_Model_fault M_Model_fault_b15
    rw [if_neg (by decide), if_pos (by decide), p_fails0]
    rfl
  · by_cases c1 : x = 1
    · subst c1
      refine Or.inl ⟨(u.1 0 6).toInt64, hall 0 (u.1 42 3) (gsL u 66 0 (u.1 0 6).toInt64) _ rfl ?_ rfl (fun _ => by rw [← h2]; rfl)⟩
      unfold M_Model_fault M_Model_fault_b15
      rw [if_neg (by decide), if_pos (by decide), p_fails0]
      rfl
    · refine Or.inr (hall 1 0 u _ ?_ ?_ rfl (fun h9 => absurd h9 (show ¬ (1 : Int32) = 0 by decide)))
      · unfold M_Law_fault E_Desk_fault
        rw [if_neg c0, if_neg c1]
        rfl
      · unfold M_Model_fault M_Model_fault_b10 M_Model_fault_b15
        by_cases c2 : x < 0
        · rw [if_pos c2, p_fails1]
          rfl
        · have c3 : ¬ x ≤ 1 := by
            rw [Int32.lt_iff_toInt_lt, Int32.toInt_zero] at c2
            rw [Int32.le_iff_toInt_le, show (1 : Int32).toInt = 1 from rfl]
            intro c4
            have c5 : x.toInt ≠ 0 := fun e => c0 (Int32.toInt_inj.mp (by rw [e]; rfl))
            have c6 : x.toInt ≠ 1 := fun e => c1 (Int32.toInt_inj.mp (by rw [e]; rfl))
            omega
          rw [if_neg c2, if_neg c3, p_fails1]
          rfl
