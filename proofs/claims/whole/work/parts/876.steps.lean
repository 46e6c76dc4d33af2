/-! The class's rank: the two ways in steps. -/
theorem p_down1 {u y : gSt} {s : GS} {j : Nat} (hs : Gd s) (hj : j < z_m s) (k : KB u y s) (h : ∀ i, i < j → Sl y (200 * 2 + z_b s i) (v2 s i) 1) : ∃ w, M_Ranking_stepDown_b2 (nI j) y = some (.inl (nI (j + 1), w)) ∧ FS y w (200 * 2 + z_b s j) ∧ Sl w (200 * 2 + z_b s j) (v2 s j) 1 := by
  have hm := z_m_le hs
  have hb := z_b_lt hj
  obtain ⟨w, e, fs, sl⟩ := p_capped (u := y) (i := 200 * 2 + z_b s j) (c := z_b s j) (x := z_x s (z_b s j)) (all := z_A s) (t := z_m s - j) (b := 1) (by omega) (by omega) (k.2.2.2.1 _ hb) (Nat.le_trans (z_x_le s _) (z_A_le hs)) k.2.2.1 (z_A_le hs) (by omega) (by decide) (by decide)
  rw [capD_1] at sl
  have kw := KB_S hs k fs (by omega)
  have hun : M_Ranking_stepDown_b2 (nI j) y = if nI j ≤ (0 : Int32) then some (.inl (nI j + (1 : Int32), w)) else (gc (gIn (nI j - (1 : Int32)) (gLen 34)) <| (M_Ranking_slot (nI 2) (w.2.2.1 34 (gIx (nI j - (1 : Int32)))) w).bind fun q52 => (M_Ranking_compareSlots q52.1 (nI (200 * 2 + z_b s j)) q52.2).bind fun q59 => if q59.1 ≤ (0 : Int32) then some (.inl (nI j + (1 : Int32), q59.2)) else ((M_Ranking_copySlot q52.1 (nI (200 * 2 + z_b s j)) q59.2).bind fun q68 => some (.inl (nI j + (1 : Int32), q68)))) := by
    unfold M_Ranking_stepDown_b2 M_Ranking_stepDown_b71
    rw [k.2.1.2.2.1, if_neg (by rw [qi_le (by omega) (by omega)]; omega), gc_t (qi_in (n := gLen 34) (by omega) (show j < 200 by omega)), qi_ix (by omega), k.2.2.2.2 j hj, show (2 : Int32) = nI 2 from rfl, slot_n, Option.bind_some, gc_t (qi_in (n := gLen 34) (by omega) (show j < 200 by omega))]
    show ((M_Ranking_setCapped (nI (200 * 2 + z_b s j)) (y.2.2.1 34 j) (y.1 27 12 - nI j) (nI 1) y).bind _) = _
    rw [k.2.2.2.2 j hj, k.2.1.2.2.1, pk_sub (by omega), e, Option.bind_some]
  rw [hun]
  by_cases c0 : j = 0
  · subst c0
    exact ⟨w, by rw [if_pos (by decide)]; rfl, fs, sl⟩
  · obtain ⟨i, rfl⟩ : ∃ i, j = i + 1 := ⟨j - 1, by omega⟩
    have hbi := z_b_lt (s := s) (j := i) (by omega)
    have hne := z_b_ne (s := s) (i := i) (j := i + 1) (by omega) hj (by omega)
    have sb : Sl w (200 * 2 + z_b s i) (v2 s i) 1 := FS_l fs (by omega) (h i (by omega))
    obtain ⟨x, ex, fx⟩ := p_cmpV (u := w) (i := 200 * 2 + z_b s i) (j := 200 * 2 + z_b s (i + 1)) (by omega) (by omega) sb sl
    have fx1 := fx (200 * 2 + z_b s (i + 1))
    have fx0 := fx 0
    have sb2 : Sl x (200 * 2 + z_b s i) (v2 s i) 1 := FS_l fx0 (by omega) sb
    have sl2 : Sl x (200 * 2 + z_b s (i + 1)) _ 1 := FS_l fx0 (by omega) sl
    rw [if_neg (by rw [qi_le0 (by omega)]; omega), show (1 : Int32) = nI 1 from rfl, pk_sub (by omega), show i + 1 - 1 = i by omega, gc_t (qi_in (n := gLen 34) (by omega) (show i < 200 by omega)), qi_ix (by omega), kw.2.2.2.2 i (by omega), slot_n, Option.bind_some]
    have e9 : ((M_Ranking_compareSlots (nI (200 * 2 + z_b s i)) (nI (200 * 2 + z_b s (i + 1))) w).bind fun q59 => if q59.1 ≤ (0 : Int32) then some (Sum.inl (nI (i + 1) + nI 1, q59.2)) else ((M_Ranking_copySlot (nI (200 * 2 + z_b s i)) (nI (200 * 2 + z_b s (i + 1))) q59.2).bind fun q68 => some (Sum.inl (nI (i + 1) + nI 1, q68)))) = (if cmpP (v2 s i) 1 (capN (z_x s (z_b s (i + 1))) (z_A s) (z_m s - (i + 1)) 1) 1 ≤ (0 : Int32) then some (Sum.inl (nI (i + 1 + 1), x)) else ((M_Ranking_copySlot (nI (200 * 2 + z_b s i)) (nI (200 * 2 + z_b s (i + 1))) x).bind fun q68 => some (Sum.inl (β := gSt) (nI (i + 1 + 1), q68)))) := by
      rw [ex, Option.bind_some, qi_add]
    have hc : cmpP (v2 s i) 1 (capN (z_x s (z_b s (i + 1))) (z_A s) (z_m s - (i + 1)) 1) 1 ≤ (0 : Int32) ↔ v2 s i ≤ capN (z_x s (z_b s (i + 1))) (z_A s) (z_m s - (i + 1)) 1 := by
      unfold cmpP
      rw [cmp_np, Nat.mul_one, Nat.mul_one]
    by_cases c : v2 s i ≤ capN (z_x s (z_b s (i + 1))) (z_A s) (z_m s - (i + 1)) 1
    · refine ⟨x, ?_, FS_t fs fx1, ?_⟩
      · refine Eq.trans e9 ?_
        rw [if_pos (hc.mpr c)]
      · have e2 : v2 s (i + 1) = capN (z_x s (z_b s (i + 1))) (z_A s) (z_m s - (i + 1)) 1 := by
          show (if _ then _ else _) = _
          rw [if_neg (by omega)]
        rw [e2]
        exact sl2
    · obtain ⟨x2, ec, fc, sc2⟩ := p_copyS (u := x) (i := 200 * 2 + z_b s i) (j := 200 * 2 + z_b s (i + 1)) (by omega) (by omega) sb2
      refine ⟨x2, ?_, FS_t (FS_t fs fx1) fc, ?_⟩
      · refine Eq.trans e9 ?_
        rw [if_neg (fun h9 => c (hc.mp h9)), ec, Option.bind_some]
      · have e2 : v2 s (i + 1) = v2 s i := by
          show (if _ then _ else _) = _
          rw [if_pos (by omega)]
        rw [e2]
        exact sc2
theorem p_down {u v : gSt} {s : GS} (hs : Gd s) (hk : KB u v s) : ∃ w, M_Ranking_stepDown v = some w ∧ KB u w s ∧ (∀ i a p, i < 400 → Sl v i a p → Sl w i a p) ∧ ∀ j, j < z_m s → Sl w (200 * 2 + z_b s j) (v2 s j) 1 := by
  have hm := z_m_le hs
  obtain ⟨w, e, k, kp, sl⟩ := lp_rel (f := M_Ranking_stepDown_L2) (Po := fun w : gSt => KB u w s ∧ (∀ i a p, i < 400 → Sl v i a p → Sl w i a p) ∧ ∀ j, j < z_m s → Sl w (200 * 2 + z_b s j) (v2 s j) 1) (fun j (x : Int32 × gSt) => x.1 = nI j ∧ KB u x.2 s ∧ (∀ i a p, i < 400 → Sl v i a p → Sl x.2 i a p) ∧ ∀ i, i < j → Sl x.2 (200 * 2 + z_b s i) (v2 s i) 1) (z_m s) 0 (z_m s) (by omega) (fun j x _ hj hx => by
    obtain ⟨x1, y⟩ := x
    obtain ⟨rfl, k1, kp, s1⟩ := hx
    have k1' : KB u y s := k1
    obtain ⟨w, e, fs, sl⟩ := p_down1 hs hj k1' s1
    refine ⟨(nI (j + 1), w), e, rfl, KB_S hs k1' fs (by omega), fun i a p hi h => FS_l fs (by omega) (kp i a p hi h), fun i hi => ?_⟩
    by_cases c : i = j
    · subst c
      exact sl
    · have := z_b_ne (s := s) (i := i) (j := j) (by omega) hj c
      exact FS_l fs (by omega) (s1 i (by omega))) (fun x hx => by
    obtain ⟨x1, y⟩ := x
    obtain ⟨rfl, k1, kp, s1⟩ := hx
    have k1' : KB u y s := k1
    refine ⟨y, ?_, k1, kp, s1⟩
    show M_Ranking_stepDown_b2 (nI (z_m s)) y = _
    unfold M_Ranking_stepDown_b2
    rw [k1'.2.1.2.2.1, if_pos ((qi_le (by omega) (by omega)).mpr (Nat.le_refl _))]) (nI 0, v) ⟨rfl, hk, fun _ _ _ _ h => h, fun c hc => absurd hc (Nat.not_lt_zero _)⟩
  refine ⟨w, ?_, k, kp, sl⟩
  unfold M_Ranking_stepDown
  show ((gLp M_Ranking_stepDown_L2 (nI 0, v)).bind _) = _
  rw [e]
  rfl
