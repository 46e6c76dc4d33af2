/-! The class's rank: from the last up; rank as a whole. -/
def upX (m i : Nat) : Int32 := if i < m then nI (m - 1 - i) else -1
theorem p_up1 {u y : gSt} {s : GS} {i : Nat} (hs : Gd s) (hi : i < z_m s) (k : KB u y s) (h : ∀ l, l < i → Sl y (200 * 3 + z_b s (z_m s - 1 - l)) (w3 s l).1 (w3 s l).2) : ∃ w, M_Ranking_stepUp_b7 (nI (z_m s - 1 - i)) y = some (.inl (upX (z_m s) (i + 1), w)) ∧ FS y w (200 * 3 + z_b s (z_m s - 1 - i)) ∧ Sl w (200 * 3 + z_b s (z_m s - 1 - i)) (w3 s i).1 (w3 s i).2 := by
  have hm := z_m_le hs
  have hb := z_b_lt (s := s) (j := z_m s - 1 - i) (by omega)
  obtain ⟨w, e, fs, sl⟩ := p_capped (u := y) (i := 200 * 3 + z_b s (z_m s - 1 - i)) (c := z_b s (z_m s - 1 - i)) (x := z_x s (z_b s (z_m s - 1 - i))) (all := z_A s) (t := z_m s) (b := z_m s - 1 - i + 1) (by omega) (by omega) (k.2.2.2.1 _ hb) (Nat.le_trans (z_x_le s _) (z_A_le hs)) k.2.2.1 (z_A_le hs) (by omega) (by omega) (by omega)
  have kw := KB_S hs k fs (by omega)
  have hx : nI (z_m s - 1 - i) + (-1 : Int32) = upX (z_m s) (i + 1) := by
    unfold upX
    by_cases c : i + 1 < z_m s
    · rw [if_pos c, qi_m1 (by omega), show z_m s - 1 - i - 1 = z_m s - 1 - (i + 1) by omega]
    · rw [if_neg c, show z_m s - 1 - i = 0 by omega]
      rfl
  have hun : M_Ranking_stepUp_b7 (nI (z_m s - 1 - i)) y = if nI (z_m s - 1) ≤ nI (z_m s - 1 - i) then some (.inl (upX (z_m s) (i + 1), w)) else (gc (gIn (nI (z_m s - 1 - i) + (1 : Int32)) (gLen 34)) <| (M_Ranking_slot (nI 3) (w.2.2.1 34 (gIx (nI (z_m s - 1 - i) + (1 : Int32)))) w).bind fun q59 => (M_Ranking_compareSlots q59.1 (nI (200 * 3 + z_b s (z_m s - 1 - i))) q59.2).bind fun q66 => if (0 : Int32) ≤ q66.1 then some (.inl (upX (z_m s) (i + 1), q66.2)) else ((M_Ranking_copySlot q59.1 (nI (200 * 3 + z_b s (z_m s - 1 - i))) q66.2).bind fun q75 => some (.inl (upX (z_m s) (i + 1), q75)))) := by
    unfold M_Ranking_stepUp_b7 M_Ranking_stepUp_b78
    rw [if_neg (show ¬ nI (z_m s - 1 - i) < (0 : Int32) by rw [show (0 : Int32) = nI 0 from rfl, qi_lt (by omega) (by omega)]; omega), gc_t (qi_in (n := gLen 34) (by omega) (show z_m s - 1 - i < 200 by omega)), qi_ix (by omega), k.2.2.2.2 _ (by omega), show (3 : Int32) = nI 3 from rfl, slot_n, Option.bind_some, gc_t (qi_in (n := gLen 34) (by omega) (show z_m s - 1 - i < 200 by omega)), hx]
    show ((M_Ranking_setCapped (nI (200 * 3 + z_b s (z_m s - 1 - i))) (y.2.2.1 34 (z_m s - 1 - i)) (y.1 27 12) (nI (z_m s - 1 - i) + nI 1) y).bind _) = _
    rw [k.2.2.2.2 _ (by omega), k.2.1.2.2.1, qi_add, e, Option.bind_some, kw.2.1.2.2.1, show (1 : Int32) = nI 1 from rfl, pk_sub (by omega)]
  rw [hun]
  by_cases c0 : i = 0
  · subst c0
    refine ⟨w, by rw [if_pos ((qi_le (by omega) (by omega)).mpr (by omega))], fs, sl⟩
  · obtain ⟨l, rfl⟩ : ∃ l, i = l + 1 := ⟨i - 1, by omega⟩
    have hp : z_m s - 1 - (l + 1) + 1 = z_m s - 1 - l := by omega
    have hbi := z_b_lt (s := s) (j := z_m s - 1 - l) (by omega)
    have hne := z_b_ne (s := s) (i := z_m s - 1 - l) (j := z_m s - 1 - (l + 1)) (by omega) (by omega) (by omega)
    have sb : Sl w (200 * 3 + z_b s (z_m s - 1 - l)) (w3 s l).1 (w3 s l).2 := FS_l fs (by omega) (h l (by omega))
    obtain ⟨x, ex, fx⟩ := p_cmpV (u := w) (i := 200 * 3 + z_b s (z_m s - 1 - l)) (j := 200 * 3 + z_b s (z_m s - 1 - (l + 1))) (by omega) (by omega) sb sl
    have fx1 := fx (200 * 3 + z_b s (z_m s - 1 - (l + 1)))
    have fx0 := fx 0
    have sb2 : Sl x (200 * 3 + z_b s (z_m s - 1 - l)) (w3 s l).1 (w3 s l).2 := FS_l fx0 (by omega) sb
    have sl2 := FS_l (j := 200 * 3 + z_b s (z_m s - 1 - (l + 1))) fx0 (by omega) sl
    rw [if_neg (by rw [qi_le (by omega) (by omega)]; omega), show (1 : Int32) = nI 1 from rfl, qi_add, hp, gc_t (qi_in (n := gLen 34) (by omega) (show z_m s - 1 - l < 200 by omega)), qi_ix (by omega), kw.2.2.2.2 _ (by omega), slot_n, Option.bind_some]
    have e9 : ((M_Ranking_compareSlots (nI (200 * 3 + z_b s (z_m s - 1 - l))) (nI (200 * 3 + z_b s (z_m s - 1 - (l + 1)))) w).bind fun q66 => if (0 : Int32) ≤ q66.1 then some (Sum.inl (upX (z_m s) (l + 1 + 1), q66.2)) else ((M_Ranking_copySlot (nI (200 * 3 + z_b s (z_m s - 1 - l))) (nI (200 * 3 + z_b s (z_m s - 1 - (l + 1)))) q66.2).bind fun q75 => some (Sum.inl (upX (z_m s) (l + 1 + 1), q75)))) = (if (0 : Int32) ≤ cmpP (w3 s l).1 (w3 s l).2 (c3N s (z_m s - 1 - (l + 1))) (c3D s (z_m s - 1 - (l + 1))) then some (Sum.inl (upX (z_m s) (l + 1 + 1), x)) else ((M_Ranking_copySlot (nI (200 * 3 + z_b s (z_m s - 1 - l))) (nI (200 * 3 + z_b s (z_m s - 1 - (l + 1)))) x).bind fun q75 => some (Sum.inl (β := gSt) (upX (z_m s) (l + 1 + 1), q75)))) := by
      rw [ex, Option.bind_some]
      rfl
    have hc : (0 : Int32) ≤ cmpP (w3 s l).1 (w3 s l).2 (c3N s (z_m s - 1 - (l + 1))) (c3D s (z_m s - 1 - (l + 1))) ↔ ¬ (w3 s l).1 * c3D s (z_m s - 1 - (l + 1)) < c3N s (z_m s - 1 - (l + 1)) * (w3 s l).2 := by
      unfold cmpP
      rw [cmp_nn]
      omega
    by_cases c : (w3 s l).1 * c3D s (z_m s - 1 - (l + 1)) < c3N s (z_m s - 1 - (l + 1)) * (w3 s l).2
    · obtain ⟨x2, ec, fc, sc2⟩ := p_copyS (u := x) (i := 200 * 3 + z_b s (z_m s - 1 - l)) (j := 200 * 3 + z_b s (z_m s - 1 - (l + 1))) (by omega) (by omega) sb2
      refine ⟨x2, ?_, FS_t (FS_t fs fx1) fc, ?_⟩
      · refine Eq.trans e9 ?_
        rw [if_neg (fun h9 => (hc.mp h9) c), ec, Option.bind_some]
      · have e2 : w3 s (l + 1) = w3 s l := by
          show (if _ then _ else _) = _
          rw [if_pos c]
        rw [e2]
        exact sc2
    · refine ⟨x, ?_, FS_t fs fx1, ?_⟩
      · refine Eq.trans e9 ?_
        rw [if_pos (hc.mpr c)]
      · have e2 : w3 s (l + 1) = (c3N s (z_m s - 1 - (l + 1)), c3D s (z_m s - 1 - (l + 1))) := by
          show (if _ then _ else _) = _
          rw [if_neg c]
        rw [e2]
        exact sl2
theorem p_up {u v : gSt} {s : GS} (hs : Gd s) (hk : KB u v s) : ∃ w, M_Ranking_stepUp v = some w ∧ KB u w s ∧ (∀ i a p, i < 600 → Sl v i a p → Sl w i a p) ∧ ∀ l, l < z_m s → Sl w (200 * 3 + z_b s (z_m s - 1 - l)) (w3 s l).1 (w3 s l).2 := by
  have hm := z_m_le hs
  obtain ⟨w, e, k, kp, sl⟩ := lp_rel (f := M_Ranking_stepUp_L7) (Po := fun w : gSt => KB u w s ∧ (∀ i a p, i < 600 → Sl v i a p → Sl w i a p) ∧ ∀ l, l < z_m s → Sl w (200 * 3 + z_b s (z_m s - 1 - l)) (w3 s l).1 (w3 s l).2) (fun i (x : Int32 × gSt) => x.1 = upX (z_m s) i ∧ KB u x.2 s ∧ (∀ i a p, i < 600 → Sl v i a p → Sl x.2 i a p) ∧ ∀ l, l < i → Sl x.2 (200 * 3 + z_b s (z_m s - 1 - l)) (w3 s l).1 (w3 s l).2) (z_m s) 0 (z_m s) (by omega) (fun j x _ hj hx => by
    obtain ⟨x1, y⟩ := x
    obtain ⟨rfl, k1, kp, s1⟩ := hx
    have k1' : KB u y s := k1
    obtain ⟨w, e, fs, sl⟩ := p_up1 hs hj k1' s1
    refine ⟨(upX (z_m s) (j + 1), w), ?_, rfl, KB_S hs k1' fs (by omega), fun i a p hi h => FS_l fs (by omega) (kp i a p hi h), fun i hi => ?_⟩
    · show M_Ranking_stepUp_b7 (upX (z_m s) j) y = _
      have ex : upX (z_m s) j = nI (z_m s - 1 - j) := by
        unfold upX
        rw [if_pos hj]
      rw [ex, e]
    · by_cases c : i = j
      · subst c
        exact sl
      · have := z_b_ne (s := s) (i := z_m s - 1 - i) (j := z_m s - 1 - j) (by omega) (by omega) (by omega)
        exact FS_l fs (by omega) (s1 i (by omega))) (fun x hx => by
    obtain ⟨x1, y⟩ := x
    obtain ⟨rfl, k1, kp, s1⟩ := hx
    refine ⟨y, ?_, k1, kp, s1⟩
    show M_Ranking_stepUp_b7 (upX (z_m s) (z_m s)) y = _
    have ex : upX (z_m s) (z_m s) = -1 := by
      unfold upX
      rw [if_neg (by omega)]
    unfold M_Ranking_stepUp_b7
    rw [ex, if_pos (by decide)]) (upX (z_m s) 0, v) ⟨rfl, hk, fun _ _ _ _ h => h, fun c hc => absurd hc (Nat.not_lt_zero _)⟩
  refine ⟨w, ?_, k, kp, sl⟩
  have ex : nI (z_m s) - (1 : Int32) = upX (z_m s) 0 := by
    unfold upX
    by_cases c : 0 < z_m s
    · rw [if_pos c, show (1 : Int32) = nI 1 from rfl, pk_sub (by omega)]
      rfl
    · rw [if_neg c, show z_m s = 0 by omega]
      rfl
  unfold M_Ranking_stepUp
  rw [hk.2.1.2.2.1, ex, e]
  rfl
/-- the class's ranking is that of the board s -/
def RK (u : gSt) (s : GS) : Prop := TK u s (z_m s) ∧ Wv u 33 (z_A s) ∧ ∀ v j, v < 4 → j < z_m s → Sl u (200 * v + z_b s j) (zN s v j) (zD s v j)
theorem p_rank {u : gSt} {s : GS} (hd : Dg u s) (hs : Gd s) : ∃ w, M_Ranking_rank u = some w ∧ FK u w ∧ RK w s := by
  have hm := z_m_le hs
  obtain ⟨v1, e1, f1, t1⟩ := p_take hd hs
  have c1 := p_choices (u := wr v1 33 1) (r := 33) (v := 1) (m := s_n s - z_n s) (t := z_n s) rfl rfl (by have := z_n_le s; have := hs.2.1; omega) (wr_v (by decide)) (fun i hi => by
    rw [Nat.one_mul]
    refine Nat.le_trans (ch_two _ _) (Nat.pow_le_pow_right (by decide) ?_)
    have := z_n_le s
    have := hs.2.1
    omega)
  rw [show s_n s - z_n s + z_n s = s_n s by have := z_n_le s; omega, wr_wr, Nat.one_mul] at c1
  have hA : z_A s < 1000000000 ^ 8 := Nat.lt_of_le_of_lt (z_A_le hs) (by decide)
  have f2 : FK u (wr v1 33 (z_A s)) := FK_t f1 (FK_R (by omega))
  have t2 : TK (wr v1 33 (z_A s)) s (z_m s) := TK_R (by omega) t1
  obtain ⟨v3, e3, f3, t3, w3', s3⟩ := p_chances hs f2 t2 (wr_v hA)
  obtain ⟨v4, e4, k4⟩ := p_sortC hs f3 t3 w3' s3
  obtain ⟨v5, e5, k5, s5⟩ := p_times hs k4
  obtain ⟨v6, e6, k6, p6, s6⟩ := p_down hs k5
  obtain ⟨v7, e7, k7, p7, s7⟩ := p_up hs k6
  refine ⟨v7, ?_, k7.1, k7.2.1, k7.2.2.1, fun v j hv hj => ?_⟩
  · unfold M_Ranking_rank
    rw [e1, Option.bind_some, p_set1 rfl rfl, Option.bind_some]
    show ((M_Wide_multiplyByChoices 33 (v1.1 27 10) (v1.1 27 11) (wr v1 33 1)).bind _) = _
    rw [t1.1, t1.2.1, c1, Option.bind_some]
    show ((gLp M_Ranking_rank_L30 (nI 0, wr v1 33 (z_A s))).bind _) = _
    rw [e3, Option.bind_some, t3.2.2.1, e4, Option.bind_some]
    show ((gLp M_Ranking_rank_L71 (nI 0, v4)).bind _) = _
    rw [e5, Option.bind_some, e6, Option.bind_some, e7, Option.bind_some]
  · have hb := z_b_lt hj
    unfold zN zD
    by_cases c0 : v = 0
    · subst c0
      rw [if_pos rfl, if_pos (by omega), Nat.mul_zero, Nat.zero_add]
      exact k7.2.2.2.1 _ hb
    · rw [if_neg c0]
      by_cases c1 : v = 1
      · subst c1
        rw [if_pos rfl, if_pos (by omega)]
        exact p7 _ _ _ (by omega) (p6 _ _ _ (by omega) (s5 _ hb))
      · rw [if_neg c1]
        by_cases c2 : v = 2
        · subst c2
          rw [if_pos rfl, if_pos (by omega)]
          exact p7 _ _ _ (by omega) (s6 j hj)
        · obtain rfl : v = 3 := by omega
          rw [if_neg (by omega), if_neg (by omega)]
          have h9 := s7 (z_m s - 1 - j) (by omega)
          rw [show z_m s - 1 - (z_m s - 1 - j) = j by omega] at h9
          exact h9
