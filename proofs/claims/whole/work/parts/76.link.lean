/-! The board's note and link, names added. -/
theorem gsF_q {u : gSt} {r a k : Nat} {v : Int32} {F : Nat → Int64} : gsF (gsQ u r F) a k v = gsQ (gsF u a k v) r F := rfl
theorem FG_F4 {u : gSt} {k : Nat} {v : Int32} : FG u (gsF u 4 k v) := ⟨fun _ _ ha => if_neg ha, rfl, rfl, fun _ _ => rfl⟩
theorem o_note0 {u : gSt} {s : GS} {g t : Nat} (hd : Dg u s) (hs : Gd s) (hg : g < s_n s) (ht : t < s_t s) (hn : s_nt s g t = true) : M_Board_note (nI g) (nI t) u = some u := by
  have h1 := hs.1
  have h2 := hs.2.1
  obtain ⟨d1, d2, d3, d4, d5, d6, d7, d8, d9, d10⟩ := hd
  unfold M_Board_note
  rw [p_has (a := 17) (r := 18) rfl rfl rfl (by omega) (by omega) (show 4 * t + g / 64 < 800 by omega), d7 t g (by omega) (by omega), hn]
  rfl
theorem o_note {u : gSt} {s : GS} {g t : Nat} (hd : Dg u s) (hs : Gd s) (hg : g < s_n s) (ht : t < s_t s) (hn : s_nt s g t = false) : ∃ v, M_Board_note (nI g) (nI t) u = some v ∧ FG u v ∧ Dg v (s_not s g t) := by
  have h1 := hs.1
  have h2 := hs.2.1
  have h4 := hs.2.2.2.1
  obtain ⟨d1, d2, d3, d4, d5, d6, d7, d8, d9, d10⟩ := hd
  obtain ⟨F1, e1, g1⟩ := p_put (a := 17) (r := 18) (row := t) (i := g) (u := u) rfl rfl rfl (by omega) (by omega) (show 4 * t + g / 64 < 800 by omega)
  generalize hu1 : gsF (gsQ u 18 F1) 4 11 (nI (s_c s + 1)) = u1
  have key := lp_rel (f := M_Board_note_L34) (Po := fun z => ∃ F, z = gsQ u1 20 F ∧ ∀ y h, y < 200 → h < 256 → gb (gsQ u1 20 F) 20 y h = (s_av s h y || (decide (y < s_t s) && (decide (h = g) && (decide (y = t) || s_ab s t y))))) (fun k z => ∃ F, z = (nI g, nI t, nI k, gsQ u1 20 F) ∧ ∀ y h, y < 200 → h < 256 → gb (gsQ u1 20 F) 20 y h = (s_av s h y || (decide (y < k) && (decide (h = g) && (decide (y = t) || s_ab s t y))))) (s_t s) 0 (s_t s) (by omega) ?_ ?_ (nI g, nI t, (0 : Int32), u1) ⟨u1.2.2.2 20, by rw [gsQ_0 rfl]; rfl, fun y h hy hh => by rw [gsQ_0 rfl, ← hu1, decide_eq_false (by omega), Bool.false_and, Bool.or_false]; exact (gb_b (by decide)).trans (d8 y h hy hh)⟩
  · obtain ⟨z, e, F, rfl, g2⟩ := key
    refine ⟨gsQ u1 20 F, ?_, ?_, ?_⟩
    · unfold M_Board_note
      rw [p_has (a := 17) (r := 18) rfl rfl rfl (by omega) (by omega) (show 4 * t + g / 64 < 800 by omega), d7 t g (by omega) (by omega), hn]
      show (M_Grid_put 17 (nI t) (nI g) u).bind _ = _
      rw [e1, Option.bind_some]
      show (gLp M_Board_note_L34 (nI g, nI t, (0 : Int32), gsF (gsQ u 18 F1) 4 11 (u.1 4 11 + nI 1))).bind _ = _
      rw [d4, qi_add, hu1, e]
      rfl
    · rw [← hu1]
      refine FG_t (FG_t (FG_Q (r := 18) (F := F1) (by decide) (by decide)) FG_F4) (FG_Q (r := 20) (F := F) (by decide) (by decide))
    · rw [← hu1] at g2 ⊢
      refine ⟨d1, d2, d3, rfl, fun x y hx hy => ?_, fun x y hx hy => ?_, fun x y hx hy => ?_, fun x y hx hy => ?_, fun y hy => ?_, fun y hy => ?_⟩
      · rw [gb_b (by decide)]; exact (gb_b (u := u) (r := 18) (by decide)).trans (d5 x y hx hy)
      · rw [gb_b (by decide)]; exact (gb_b (u := u) (r := 18) (by decide)).trans (d6 x y hx hy)
      · rw [gb_b (by decide)]
        show gb (gsQ u 18 F1) 18 x y = (s_nt s y x || (decide (y = g) && decide (x = t)))
        rw [g1 x y hy, d7 x y hx hy, Bool.and_comm (decide (x = t))]
      · rw [g2 x y hx hy, av_not ht]
        by_cases c : x < s_t s
        · rw [decide_eq_true c, Bool.true_and]
        · have c1 : ¬ x = t := by omega
          have c2 : s_ab s t x = false := by
            cases h9 : s_ab s t x with
            | false => rfl
            | true => exact absurd (h4 t x h9).2 c
          rw [decide_eq_false c, decide_eq_false c1, c2]
          cases decide (y = g) <;> rfl
      · rw [gb_b (by decide)]; exact (gb_b (u := u) (r := 18) (by decide)).trans (d9 y hy)
      · rw [gb_b (by decide)]; exact (gb_b (u := u) (r := 18) (by decide)).trans (d10 y hy)
  · rintro k z - hk ⟨F, rfl, g2⟩
    have w1 : (gsQ u1 20 F).1 4 9 = nI (s_t s) := by
      rw [← hu1]
      exact d1
    have w2 : gb (gsQ u1 20 F) 16 t k = s_ab s t k := by
      rw [← hu1, gb_b (by decide)]
      exact (gb_b (u := u) (r := 18) (by decide)).trans (d6 t k (by omega) (by omega))
    have hb : M_Board_note_L34 (nI g, nI t, nI k, gsQ u1 20 F) = M_Board_note_b34 (nI g) (nI t) (nI k) (gsQ u1 20 F) := rfl
    rw [hb]
    unfold M_Board_note_b34 M_Board_note_b60
    rw [w1, if_neg (by rw [qi_le (by omega) (by omega)]; omega), p_soa (by omega) (by omega), w2, Option.bind_some]
    cases c : (decide (k = t) || s_ab s t k) with
    | false =>
      refine ⟨_, ?_, F, rfl, fun y h hy hh => ?_⟩
      · rw [if_pos (show b2i false = 0 from rfl)]
        show some (Sum.inl (nI g, nI t, nI k + nI 1, _)) = _
        rw [qi_add]
      · rw [g2 y h hy hh]
        by_cases e : y = k
        · subst e
          rw [c, Bool.and_false, Bool.and_false, Bool.and_false]
        · rw [show decide (y < k + 1) = decide (y < k) from decide_eq_decide.mpr ⟨fun _ => by omega, fun _ => by omega⟩]
    | true =>
      obtain ⟨F2, e2, g3⟩ := p_put (a := 19) (r := 20) (row := k) (i := g) (u := gsQ u1 20 F) rfl rfl rfl (by omega) (by omega) (show 4 * k + g / 64 < 800 by omega)
      rw [gsQ_Q] at e2 g3
      refine ⟨_, ?_, F2, rfl, fun y h hy hh => ?_⟩
      · rw [if_neg (show ¬ b2i true = 0 by decide), e2, Option.bind_some]
        show some (Sum.inl (nI g, nI t, nI k + nI 1, _)) = _
        rw [qi_add]
      · rw [g3 y h hh, g2 y h hy hh]
        by_cases e : y = k
        · subst e
          rw [c, decide_eq_false (show ¬ y < y by omega), decide_eq_true (show y < y + 1 by omega), decide_eq_true (show y = y from rfl)]
          cases s_av s h y <;> cases decide (h = g) <;> rfl
        · rw [show decide (y < k + 1) = decide (y < k) from decide_eq_decide.mpr ⟨fun _ => by omega, fun _ => by omega⟩, decide_eq_false e, Bool.false_and, Bool.or_false]
  · rintro z ⟨F, rfl, g2⟩
    refine ⟨_, ?_, F, rfl, g2⟩
    show M_Board_note_b34 (nI g) (nI t) (nI (s_t s)) (gsQ u1 20 F) = _
    unfold M_Board_note_b34
    rw [show (gsQ u1 20 F).1 4 9 = nI (s_t s) by rw [← hu1]; exact d1, if_pos ((qi_le (by omega) (by omega)).mpr (Nat.le_refl _))]
theorem o_link0 {u : gSt} {s : GS} {lo hi : Nat} (hd : Dg u s) (hs : Gd s) (h1 : lo < s_t s) (h2 : hi < s_t s) (hn : s_lk s lo hi = true) : M_Board_link (nI lo) (nI hi) u = some u := by
  have ht := hs.1
  obtain ⟨d1, d2, d3, d4, d5, d6, d7, d8, d9, d10⟩ := hd
  unfold M_Board_link
  rw [p_has (a := 13) (r := 14) rfl rfl rfl (by omega) (by omega) (show 4 * lo + hi / 64 < 800 by omega), d5 lo hi (by omega) (by omega), hn]
  rfl
theorem o_link {u : gSt} {s : GS} {lo hi : Nat} (hd : Dg u s) (hs : Gd s) (hlo : lo < s_t s) (hhi : hi < s_t s) (hne : lo ≠ hi) (hno : s_ab s hi lo = false) (hn : s_lk s lo hi = false) : ∃ v, M_Board_link (nI lo) (nI hi) u = some v ∧ FG u v ∧ Dg v (s_lnk s lo hi) := by
  have ht := hs.1
  have h4 := hs.2.2.2.1
  have ab_lt : ∀ x y, ¬ (x < s_t s ∧ y < s_t s) → s_ab s x y = false := fun x y h => by
    cases h9 : s_ab s x y with
    | false => rfl
    | true => exact absurd (h4 x y h9) h
  obtain ⟨d1, d2, d3, d4, d5, d6, d7, d8, d9, d10⟩ := hd
  obtain ⟨F1, e1, g1⟩ := p_put (a := 13) (r := 14) (row := lo) (i := hi) (u := u) rfl rfl rfl (by omega) (by omega) (show 4 * lo + hi / 64 < 800 by omega)
  generalize hu1 : gsF (gsQ u 14 F1) 4 10 (nI (s_l s + 1)) = u1
  have k1 : u1.1 4 9 = nI (s_t s) := by
    rw [← hu1]
    exact d1
  have key := lp_rel (f := M_Board_link_L34) (Po := fun z => ∃ F, z = (nI lo, nI hi, gsQ u1 16 F) ∧ ∀ x y, x < 200 → y < 256 → gb (gsQ u1 16 F) 16 x y = (s_ab s x y || (decide (x < s_t s) && ((decide (x = lo) || s_ab s x lo) && (decide (y = hi) || s_ab s hi y))))) (fun k z => ∃ F, z = (nI lo, nI hi, nI k, gsQ u1 16 F) ∧ ∀ x y, x < 200 → y < 256 → gb (gsQ u1 16 F) 16 x y = (s_ab s x y || (decide (x < k) && ((decide (x = lo) || s_ab s x lo) && (decide (y = hi) || s_ab s hi y))))) (s_t s) 0 (s_t s) (by omega) ?_ ?_ (nI lo, nI hi, (0 : Int32), u1) ⟨u1.2.2.2 16, by rw [gsQ_0 rfl]; rfl, fun x y hx hy => by rw [gsQ_0 rfl, ← hu1, decide_eq_false (by omega), Bool.false_and, Bool.or_false]; exact (gb_b (u := u) (r := 14) (by decide)).trans (d6 x y hx hy)⟩
  · obtain ⟨z, e3, F2, rfl, g2⟩ := key
    generalize hu2 : gsQ u1 16 F2 = u2 at e3 g2
    have g2' : ∀ x y, x < 200 → y < 256 → gb u2 16 x y = s_ab (s_lnk s lo hi) x y := fun x y hx hy => by
      rw [g2 x y hx hy]
      show _ = (s_ab s x y || ((decide (x = lo) || s_ab s x lo) && (decide (y = hi) || s_ab s hi y)))
      by_cases c : x < s_t s
      · rw [decide_eq_true c, Bool.true_and]
      · rw [decide_eq_false c, decide_eq_false (show ¬ x = lo by omega), ab_lt x lo (fun h => c h.1)]
        rfl
    have k2 : u2.1 4 9 = nI (s_t s) := by
      rw [← hu2]
      exact k1
    have k3 : ∀ x y, x < 200 → y < 256 → gb u2 20 x y = s_av s y x := fun x y hx hy => by
      rw [← hu2, gb_b (by decide), ← hu1]
      exact (gb_b (u := u) (r := 14) (by decide)).trans (d8 x y hx hy)
    have key2 := lp_rel (f := M_Board_link_L81) (Po := fun z => ∃ F, z = gsQ u2 20 F ∧ ∀ y g, y < 200 → g < 256 → gb (gsQ u2 20 F) 20 y g = (s_av s g y || (decide (y < s_t s) && ((decide (y = hi) || s_ab s hi y) && s_av s g lo)))) (fun k z => ∃ F, z = (nI lo, nI hi, nI k, gsQ u2 20 F) ∧ ∀ y g, y < 200 → g < 256 → gb (gsQ u2 20 F) 20 y g = (s_av s g y || (decide (y < k) && ((decide (y = hi) || s_ab s hi y) && s_av s g lo)))) (s_t s) 0 (s_t s) (by omega) ?_ ?_ (nI lo, nI hi, (0 : Int32), u2) ⟨u2.2.2.2 20, by rw [gsQ_0 rfl]; rfl, fun x y hx hy => by rw [gsQ_0 rfl, decide_eq_false (by omega), Bool.false_and, Bool.or_false]; exact k3 x y hx hy⟩
    · obtain ⟨z, e4, F3, rfl, g4⟩ := key2
      refine ⟨gsQ u2 20 F3, ?_, ?_, ?_⟩
      · unfold M_Board_link
        rw [p_has (a := 13) (r := 14) rfl rfl rfl (by omega) (by omega) (show 4 * lo + hi / 64 < 800 by omega), d5 lo hi (by omega) (by omega), hn]
        show (M_Grid_put 13 (nI lo) (nI hi) u).bind _ = _
        rw [e1, Option.bind_some]
        show (gLp M_Board_link_L34 (nI lo, nI hi, (0 : Int32), gsF (gsQ u 14 F1) 4 10 (u.1 4 10 + nI 1))).bind _ = _
        rw [d3, qi_add, hu1, e3, Option.bind_some]
        show (gLp M_Board_link_L81 (nI lo, nI hi, (0 : Int32), u2)).bind _ = _
        rw [e4]
        rfl
      · rw [← hu2, ← hu1]
        exact FG_t (FG_t (FG_t (FG_Q (r := 14) (F := F1) (by decide) (by decide)) FG_F4) (FG_Q (r := 16) (F := F2) (by decide) (by decide))) (FG_Q (r := 20) (F := F3) (by decide) (by decide))
      · have t4 : ∀ b x y, b ≠ 20 → b ≠ 16 → gb (gsQ u2 20 F3) b x y = gb (gsQ u 14 F1) b x y := fun b x y h20 h16 => by
          rw [gb_b h20, ← hu2, gb_b h16, ← hu1]
          rfl
        refine ⟨k2, ?_, ?_, ?_, fun x y hx hy => ?_, fun x y hx hy => ?_, fun x y hx hy => ?_, fun x y hx hy => ?_, fun y hy => ?_, fun y hy => ?_⟩
        · rw [← hu2, ← hu1]; exact d2
        · rw [← hu2, ← hu1]; rfl
        · rw [← hu2, ← hu1]; exact d4
        · rw [t4 14 x y (by decide) (by decide), g1 x y hy, d5 x y hx hy]
          rfl
        · rw [gb_b (by decide)]; exact g2' x y hx hy
        · rw [t4 18 x y (by decide) (by decide), gb_b (by decide)]; exact d7 x y hx hy
        · rw [g4 x y hx hy, av_lnk hs]
          by_cases c : x < s_t s
          · rw [decide_eq_true c, Bool.true_and]
          · rw [decide_eq_false c, decide_eq_false (show ¬ x = hi by omega), ab_lt hi x (fun h => c h.2)]
            rfl
        · rw [t4 22 0 y (by decide) (by decide), gb_b (by decide)]; exact d9 y hy
        · rw [t4 24 0 y (by decide) (by decide), gb_b (by decide)]; exact d10 y hy
    · rintro k z - hk ⟨F, rfl, g3⟩
      have w2 : gb (gsQ u2 20 F) 16 hi k = s_ab s hi k := by
        rw [gb_b (by decide), g2' hi k (by omega) (by omega)]
        show (s_ab s hi k || ((decide (hi = lo) || s_ab s hi lo) && (decide (k = hi) || s_ab s hi k))) = _
        rw [decide_eq_false (show ¬ hi = lo by omega), hno]
        cases s_ab s hi k <;> rfl
      have hb : M_Board_link_L81 (nI lo, nI hi, nI k, gsQ u2 20 F) = M_Board_link_b81 (nI lo) (nI hi) (nI k) (gsQ u2 20 F) := rfl
      rw [hb]
      unfold M_Board_link_b81 M_Board_link_b111
      rw [show (gsQ u2 20 F).1 4 9 = nI (s_t s) from k2, if_neg (by rw [qi_le (by omega) (by omega)]; omega), p_soa (by omega) (by omega), w2, Option.bind_some]
      cases c : (decide (k = hi) || s_ab s hi k) with
      | false =>
        refine ⟨_, ?_, F, rfl, fun y h hy hh => ?_⟩
        · rw [if_pos (show b2i false = 0 from rfl)]
          show some (Sum.inl (nI lo, nI hi, nI k + nI 1, _)) = _
          rw [qi_add]
        · rw [g3 y h hy hh]
          by_cases e : y = k
          · subst e
            rw [c, Bool.false_and, Bool.and_false, Bool.and_false]
          · rw [show decide (y < k + 1) = decide (y < k) from decide_eq_decide.mpr ⟨fun _ => by omega, fun _ => by omega⟩]
      | true =>
        obtain ⟨F4, e4, g5⟩ := p_join (a := 19) (r := 20) (row := k) (a' := 19) (r' := 20) (row' := lo) (u := gsQ u2 20 F) rfl rfl rfl (by omega) (show 4 * k + 3 < 800 by omega) rfl rfl rfl (by omega) (show 4 * lo + 3 < 800 by omega)
        rw [gsQ_Q] at e4 g5
        refine ⟨_, ?_, F4, rfl, fun y h hy hh => ?_⟩
        · rw [if_neg (show ¬ b2i true = 0 by decide), e4, Option.bind_some]
          show some (Sum.inl (nI lo, nI hi, nI k + nI 1, _)) = _
          rw [qi_add]
        · have hlo2 : gb (gsQ u2 20 F) 20 lo h = s_av s h lo := by
            rw [g3 lo h (by omega) hh, decide_eq_false hne, hno]
            cases s_av s h lo <;> cases decide (lo < k) <;> rfl
          rw [g5 y h hh, g3 y h hy hh, hlo2]
          by_cases e : y = k
          · subst e
            rw [c, decide_eq_false (show ¬ y < y by omega), decide_eq_true (show y < y + 1 by omega), decide_eq_true (show y = y from rfl)]
            cases s_av s h y <;> cases s_av s h lo <;> rfl
          · rw [show decide (y < k + 1) = decide (y < k) from decide_eq_decide.mpr ⟨fun _ => by omega, fun _ => by omega⟩, decide_eq_false e, Bool.false_and, Bool.or_false]
    · rintro z ⟨F, rfl, g3⟩
      refine ⟨_, ?_, F, rfl, g3⟩
      show M_Board_link_b81 (nI lo) (nI hi) (nI (s_t s)) (gsQ u2 20 F) = _
      unfold M_Board_link_b81
      rw [show (gsQ u2 20 F).1 4 9 = nI (s_t s) from k2, if_pos ((qi_le (by omega) (by omega)).mpr (Nat.le_refl _))]
  · rintro k z - hk ⟨F, rfl, g2⟩
    have w2 : gb (gsQ u1 16 F) 16 k lo = s_ab s k lo := by
      rw [g2 k lo (by omega) (by omega), decide_eq_false (show ¬ k < k by omega), Bool.false_and, Bool.or_false]
    have hb : M_Board_link_L34 (nI lo, nI hi, nI k, gsQ u1 16 F) = M_Board_link_b34 (nI lo) (nI hi) (nI k) (gsQ u1 16 F) := rfl
    rw [hb]
    unfold M_Board_link_b34 M_Board_link_b73
    rw [show (gsQ u1 16 F).1 4 9 = nI (s_t s) from k1, if_neg (by rw [qi_le (by omega) (by omega)]; omega), p_soa (by omega) (by omega), w2, Option.bind_some, show decide (lo = k) = decide (k = lo) from decide_eq_decide.mpr ⟨Eq.symm, Eq.symm⟩]
    cases c : (decide (k = lo) || s_ab s k lo) with
    | false =>
      refine ⟨_, ?_, F, rfl, fun y h hy hh => ?_⟩
      · rw [if_pos (show b2i false = 0 from rfl)]
        show some (Sum.inl (nI lo, nI hi, nI k + nI 1, _)) = _
        rw [qi_add]
      · rw [g2 y h hy hh]
        by_cases e : y = k
        · subst e
          rw [c, Bool.false_and, Bool.and_false, Bool.and_false]
        · rw [show decide (y < k + 1) = decide (y < k) from decide_eq_decide.mpr ⟨fun _ => by omega, fun _ => by omega⟩]
    | true =>
      obtain ⟨F4, e4, g5⟩ := p_join (a := 15) (r := 16) (row := k) (a' := 15) (r' := 16) (row' := hi) (u := gsQ u1 16 F) rfl rfl rfl (by omega) (show 4 * k + 3 < 800 by omega) rfl rfl rfl (by omega) (show 4 * hi + 3 < 800 by omega)
      rw [gsQ_Q] at e4 g5
      obtain ⟨F5, e5, g6⟩ := p_put (a := 15) (r := 16) (row := k) (i := hi) (u := gsQ u1 16 F4) rfl rfl rfl (by omega) (by omega) (show 4 * k + hi / 64 < 800 by omega)
      rw [gsQ_Q] at e5 g6
      refine ⟨_, ?_, F5, rfl, fun y h hy hh => ?_⟩
      · rw [if_neg (show ¬ b2i true = 0 by decide), e4, Option.bind_some, e5, Option.bind_some]
        show some (Sum.inl (nI lo, nI hi, nI k + nI 1, _)) = _
        rw [qi_add]
      · have hhi2 : gb (gsQ u1 16 F) 16 hi h = s_ab s hi h := by
          rw [g2 hi h (by omega) hh, decide_eq_false (show ¬ hi = lo by omega), hno]
          cases s_ab s hi h <;> cases decide (hi < k) <;> rfl
        rw [g6 y h hh, g5 y h hh, g2 y h hy hh, hhi2]
        by_cases e : y = k
        · subst e
          rw [c, decide_eq_false (show ¬ y < y by omega), decide_eq_true (show y < y + 1 by omega), decide_eq_true (show y = y from rfl)]
          cases s_ab s y h <;> cases s_ab s hi h <;> cases decide (h = hi) <;> rfl
        · rw [show decide (y < k + 1) = decide (y < k) from decide_eq_decide.mpr ⟨fun _ => by omega, fun _ => by omega⟩, decide_eq_false e, Bool.false_and, Bool.or_false, Bool.false_and, Bool.or_false]
  · rintro z ⟨F, rfl, g2⟩
    refine ⟨_, ?_, F, rfl, g2⟩
    show M_Board_link_b34 (nI lo) (nI hi) (nI (s_t s)) (gsQ u1 16 F) = _
    unfold M_Board_link_b34
    rw [show (gsQ u1 16 F).1 4 9 = nI (s_t s) from k1, if_pos ((qi_le (by omega) (by omega)).mpr (Nat.le_refl _))]
