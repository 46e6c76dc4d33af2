/-! Grids written: put, join, emptyRow. -/
theorem lb_tp : ∀ i, i < 256 → ((1 : Int64) <<< ((nI i &&& (63 : Int32)).toInt64 &&& (63 : Int64))).toBitVec = BitVec.twoPow 64 (i % 64) := by decide +kernel
theorem lb_put {w : Int64} {i j : Nat} (hi : i < 256) : lb (w ||| ((1 : Int64) <<< ((nI i &&& (63 : Int32)).toInt64 &&& (63 : Int64)))) j = (lb w j || decide (i % 64 = j)) := by
  unfold lb
  rw [Int64.toBitVec_or, BitVec.getLsbD_or, lb_tp i hi, BitVec.getLsbD_twoPow, decide_eq_true (show i % 64 < 64 by omega), Bool.true_and]
theorem lb_or {x y : Int64} {j : Nat} : lb (x ||| y) j = (lb x j || lb y j) := by
  unfold lb
  rw [Int64.toBitVec_or, BitVec.getLsbD_or]
theorem lb_0 {j : Nat} : lb 0 j = false := by
  unfold lb
  exact BitVec.getLsbD_zero
theorem gsQ_a {u : gSt} {r : Nat} {F : Nat → Int64} : (gsQ u r F).2.2.2 r = F := if_pos rfl
theorem gsQ_b {u : gSt} {r b : Nat} {F : Nat → Int64} (h : b ≠ r) : (gsQ u r F).2.2.2 b = u.2.2.2 b := if_neg h
theorem gb_b {u : gSt} {r b x y : Nat} {F : Nat → Int64} (h : b ≠ r) : gb (gsQ u r F) b x y = gb u b x y := by
  unfold gb
  rw [gsQ_b h]
theorem p_put {a r row i : Nat} {u : gSt} (h1 : gK a = 5) (h2 : gFR a 0 = some r) (h3 : gK r = 24) (hr : row < 256) (hi : i < 256) (hl : 4 * row + i / 64 < gLen r) : ∃ F, M_Grid_put a (nI row) (nI i) u = some (gsQ u r F) ∧ ∀ x y, y < 256 → gb (gsQ u r F) r x y = (gb u r x y || (decide (x = row) && decide (y = i))) := by
  refine ⟨vp_updL (u.2.2.2 r) (4 * row + i / 64) (u.2.2.2 r (4 * row + i / 64) ||| ((1 : Int64) <<< ((nI i &&& (63 : Int32)).toInt64 &&& (63 : Int64)))), ?_, fun x y hy => ?_⟩
  · unfold M_Grid_put
    have k1 : (gK a == 5) = true := by rw [h1]; rfl
    have k2 : (gK r == 24) = true := by rw [h3]; rfl
    have e1 : nI row * (4 : Int32) + nI (i / 64) = nI (4 * row + i / 64) := by
      rw [show (4 : Int32) = nI 4 from rfl, qi_mul, qi_add, Nat.mul_comm]
    rw [gc_t k1, h2, Option.bind_some, gc_t k2, lb_ix i hi, e1, gc_t (qi_in (by omega) hl), gc_t k2, gc_t (qi_in (by omega) hl), qi_ix (by omega), gsL_Q]
    rfl
  · unfold gb
    rw [gsQ_a]
    show lb (if 4 * x + y / 64 = 4 * row + i / 64 then _ else _) _ = _
    by_cases e : 4 * x + y / 64 = 4 * row + i / 64
    · have hx : x = row := by omega
      rw [if_pos e, lb_put hi, e, decide_eq_true hx, Bool.true_and]
      refine congrArg (fun b => (lb _ _ || b)) (decide_eq_decide.mpr ⟨fun _ => by omega, fun _ => by omega⟩)
    · rw [if_neg e]
      have : (decide (x = row) && decide (y = i)) = false := by
        by_cases hx : x = row
        · have hy2 : ¬ y = i := fun e9 => e (by rw [hx, e9])
          rw [decide_eq_false hy2, Bool.and_false]
        · rw [decide_eq_false hx, Bool.false_and]
      rw [this, Bool.or_false]
theorem p_join {a r row a' r' row' : Nat} {u : gSt} (h1 : gK a = 5) (h2 : gFR a 0 = some r) (h3 : gK r = 24) (hr : row < 256) (hl : 4 * row + 3 < gLen r) (g1 : gK a' = 5) (g2 : gFR a' 0 = some r') (g3 : gK r' = 24) (gr : row' < 256) (gl : 4 * row' + 3 < gLen r') : ∃ F, M_Grid_join a (nI row) a' (nI row') u = some (gsQ u r F) ∧ ∀ x y, y < 256 → gb (gsQ u r F) r x y = (gb u r x y || (decide (x = row) && gb u r' row' y)) := by
  have k1 : (gK a == 5) = true := by rw [h1]; rfl
  have k2 : (gK r == 24) = true := by rw [h3]; rfl
  have k3 : (gK a' == 5) = true := by rw [g1]; rfl
  have k4 : (gK r' == 24) = true := by rw [g3]; rfl
  refine ⟨fun k => if 4 * row ≤ k ∧ k < 4 * row + 4 then u.2.2.2 r k ||| u.2.2.2 r' (4 * row' + (k - 4 * row)) else u.2.2.2 r k, ?_, fun x y hy => ?_⟩
  · have e0 : (a, nI row, a', nI row', (0 : Int32), u) = (fun i => (a, nI row, a', nI row', nI i, gsQ u r (fun k => if 4 * row ≤ k ∧ k < 4 * row + i then u.2.2.2 r k ||| u.2.2.2 r' (4 * row' + (k - 4 * row)) else u.2.2.2 r k))) 0 := by
      show _ = (a, nI row, a', nI row', nI 0, gsQ u r (fun k => if 4 * row ≤ k ∧ k < 4 * row + 0 then u.2.2.2 r k ||| u.2.2.2 r' (4 * row' + (k - 4 * row)) else u.2.2.2 r k))
      rw [gsQ_0]
      · rfl
      · funext k
        rw [if_neg (by omega)]
    unfold M_Grid_join
    rw [e0, lp_to (S := fun i => (a, nI row, a', nI row', nI i, gsQ u r (fun k => if 4 * row ≤ k ∧ k < 4 * row + i then u.2.2.2 r k ||| u.2.2.2 r' (4 * row' + (k - 4 * row)) else u.2.2.2 r k))) (y := gsQ u r (fun k => if 4 * row ≤ k ∧ k < 4 * row + 4 then u.2.2.2 r k ||| u.2.2.2 r' (4 * row' + (k - 4 * row)) else u.2.2.2 r k)) (k := 0) (N := 4) (Nat.zero_le _) (fun i _ hi => ?_) rfl]
    · rfl
    · show M_Grid_join_b3 a (nI row) a' (nI row') (nI i) (gsQ u r (fun k => if 4 * row ≤ k ∧ k < 4 * row + i then u.2.2.2 r k ||| u.2.2.2 r' (4 * row' + (k - 4 * row)) else u.2.2.2 r k)) = some (Sum.inl (a, nI row, a', nI row', nI (i + 1), gsQ u r (fun k => if 4 * row ≤ k ∧ k < 4 * row + (i + 1) then u.2.2.2 r k ||| u.2.2.2 r' (4 * row' + (k - 4 * row)) else u.2.2.2 r k)))
      unfold M_Grid_join_b3
      have e1 : nI row * (4 : Int32) + nI i = nI (4 * row + i) := by
        rw [show (4 : Int32) = nI 4 from rfl, qi_mul, qi_add, Nat.mul_comm]
      have e2 : nI row' * (4 : Int32) + nI i = nI (4 * row' + i) := by
        rw [show (4 : Int32) = nI 4 from rfl, qi_mul, qi_add, Nat.mul_comm]
      have w1 : (gsQ u r (fun k => if 4 * row ≤ k ∧ k < 4 * row + i then u.2.2.2 r k ||| u.2.2.2 r' (4 * row' + (k - 4 * row)) else u.2.2.2 r k)).2.2.2 r (4 * row + i) = u.2.2.2 r (4 * row + i) := by
        rw [gsQ_a]
        exact if_neg (by omega)
      have w2 : (gsQ u r (fun k => if 4 * row ≤ k ∧ k < 4 * row + i then u.2.2.2 r k ||| u.2.2.2 r' (4 * row' + (k - 4 * row)) else u.2.2.2 r k)).2.2.2 r' (4 * row' + i) = u.2.2.2 r' (4 * row' + i) := by
        by_cases e : r' = r
        · subst e
          rw [gsQ_a]
          exact if_neg (by omega)
        · rw [gsQ_b e]
      rw [if_neg (show ¬ (4 : Int32) ≤ nI i by rw [show (4 : Int32) = nI 4 from rfl, qi_le (by omega) (by omega)]; omega), e1, e2, gc_t k1, h2, Option.bind_some, gc_t k2, gc_t (qi_in (by omega) (by omega)), gc_t k3, g2, Option.bind_some, gc_t k4, gc_t (qi_in (by omega) (by omega)), gc_t k2, gc_t (qi_in (by omega) (by omega)), qi_ix (by omega), qi_ix (by omega), w1, w2, gsL_Q, gsQ_Q, gsQ_a]
      show some (Sum.inl (a, nI row, a', nI row', nI i + nI 1, _)) = _
      rw [qi_add]
      refine congrArg (fun f => some (Sum.inl (a, nI row, a', nI row', nI (i + 1), gsQ u r f))) ?_
      funext k
      show (if k = 4 * row + i then u.2.2.2 r (4 * row + i) ||| u.2.2.2 r' (4 * row' + i) else (if 4 * row ≤ k ∧ k < 4 * row + i then u.2.2.2 r k ||| u.2.2.2 r' (4 * row' + (k - 4 * row)) else u.2.2.2 r k)) = _
      by_cases h9 : k = 4 * row + i
      · subst h9
        rw [if_pos rfl, if_pos (by omega), show 4 * row + i - 4 * row = i by omega]
      · rw [if_neg h9]
        by_cases h8 : 4 * row ≤ k ∧ k < 4 * row + i
        · rw [if_pos h8, if_pos (by omega)]
        · rw [if_neg h8, if_neg (by omega)]
  · unfold gb
    rw [gsQ_a]
    show lb (if 4 * row ≤ 4 * x + y / 64 ∧ 4 * x + y / 64 < 4 * row + 4 then _ else _) _ = _
    by_cases hx : x = row
    · subst hx
      rw [if_pos (by omega), lb_or, decide_eq_true rfl, Bool.true_and, show 4 * x + y / 64 - 4 * x = y / 64 by omega]
    · rw [if_neg (by omega), decide_eq_false hx, Bool.false_and, Bool.or_false]
theorem p_emptyRow {a r row : Nat} {u : gSt} (h1 : gK a = 5) (h2 : gFR a 0 = some r) (h3 : gK r = 24) (hr : row < 256) (hl : 4 * row + 3 < gLen r) : ∃ F, M_Grid_emptyRow a (nI row) u = some (gsQ u r F) ∧ ∀ x y, y < 256 → gb (gsQ u r F) r x y = (gb u r x y && !decide (x = row)) := by
  have k1 : (gK a == 5) = true := by rw [h1]; rfl
  have k2 : (gK r == 24) = true := by rw [h3]; rfl
  refine ⟨fun k => if 4 * row ≤ k ∧ k < 4 * row + 4 then 0 else u.2.2.2 r k, ?_, fun x y hy => ?_⟩
  · have e0 : (a, nI row, (0 : Int32), u) = (fun i => (a, nI row, nI i, gsQ u r (fun k => if 4 * row ≤ k ∧ k < 4 * row + i then 0 else u.2.2.2 r k))) 0 := by
      show _ = (a, nI row, nI 0, gsQ u r (fun k => if 4 * row ≤ k ∧ k < 4 * row + 0 then 0 else u.2.2.2 r k))
      rw [gsQ_0]
      · rfl
      · funext k
        rw [if_neg (by omega)]
    unfold M_Grid_emptyRow
    rw [e0, lp_to (S := fun i => (a, nI row, nI i, gsQ u r (fun k => if 4 * row ≤ k ∧ k < 4 * row + i then 0 else u.2.2.2 r k))) (y := gsQ u r (fun k => if 4 * row ≤ k ∧ k < 4 * row + 4 then 0 else u.2.2.2 r k)) (k := 0) (N := 4) (Nat.zero_le _) (fun i _ hi => ?_) rfl]
    · rfl
    · show M_Grid_emptyRow_b2 a (nI row) (nI i) (gsQ u r (fun k => if 4 * row ≤ k ∧ k < 4 * row + i then 0 else u.2.2.2 r k)) = some (Sum.inl (a, nI row, nI (i + 1), gsQ u r (fun k => if 4 * row ≤ k ∧ k < 4 * row + (i + 1) then 0 else u.2.2.2 r k)))
      unfold M_Grid_emptyRow_b2
      have e1 : nI row * (4 : Int32) + nI i = nI (4 * row + i) := by
        rw [show (4 : Int32) = nI 4 from rfl, qi_mul, qi_add, Nat.mul_comm]
      rw [if_neg (show ¬ (4 : Int32) ≤ nI i by rw [show (4 : Int32) = nI 4 from rfl, qi_le (by omega) (by omega)]; omega), e1, gc_t k1, h2, Option.bind_some, gc_t k2, gc_t (qi_in (by omega) (by omega)), qi_ix (by omega), gsL_Q, gsQ_Q, gsQ_a]
      show some (Sum.inl (a, nI row, nI i + nI 1, _)) = _
      rw [qi_add]
      refine congrArg (fun f => some (Sum.inl (a, nI row, nI (i + 1), gsQ u r f))) ?_
      funext k
      show (if k = 4 * row + i then 0 else (if 4 * row ≤ k ∧ k < 4 * row + i then 0 else u.2.2.2 r k)) = _
      by_cases h9 : k = 4 * row + i
      · subst h9
        rw [if_pos rfl, if_pos (by omega)]
      · rw [if_neg h9]
        by_cases h8 : 4 * row ≤ k ∧ k < 4 * row + i
        · rw [if_pos h8, if_pos (by omega)]
        · rw [if_neg h8, if_neg (by omega)]
  · unfold gb
    rw [gsQ_a]
    show lb (if 4 * row ≤ 4 * x + y / 64 ∧ 4 * x + y / 64 < 4 * row + 4 then _ else _) _ = _
    by_cases hx : x = row
    · subst hx
      rw [if_pos (by omega), lb_0, decide_eq_true rfl]
      cases lb (u.2.2.2 r (4 * x + y / 64)) (y % 64) <;> rfl
    · rw [if_neg (by omega), decide_eq_false hx]
      cases lb (u.2.2.2 r (4 * x + y / 64)) (y % 64) <;> rfl
