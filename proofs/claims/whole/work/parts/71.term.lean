/-! The law's case 5: term. -/
theorem p_mcount {u : gSt} {s : GS} {x : Nat} {k : Int32} {P : Nat → Bool} (hm : Mg u s) (hs : Gd s) (hr : ∀ (c : Int32) (z : Nat), z < s_t s → ¬ nI (s_t s) ≤ nI z → M_Model_term_b101 (nI x) k c (nI z) u = M_Model_term_b164 (nI x) k c (nI z) (b2i (P z)) u) : gLp M_Model_term_L101 (nI x, k, (0 : Int32), (0 : Int32), u) = some (nI (cnt P (s_t s)), u) := by
  have ht := hs.1
  have m1 := hm.1
  have key : gLp M_Model_term_L101 (nI x, k, nI (cnt P 0), nI 0, u) = some (nI (cnt P (s_t s)), u) := by
    refine lp_to (S := fun z => (nI x, k, nI (cnt P z), nI z, u)) (k := 0) (N := s_t s) (Nat.zero_le _) (fun z _ hz => ?_) ?_
    · show M_Model_term_b101 (nI x) k (nI (cnt P z)) (nI z) u = some (Sum.inl (nI x, k, nI (cnt P (z + 1)), nI (z + 1), u))
      rw [hr _ z hz (by rw [qi_le (by omega) (by omega)]; omega)]
      unfold M_Model_term_b164 M_Model_term_b177
      have e := cnt_step (P := P) (k := z) rfl
      rw [← e]
      cases P z with
      | false =>
        rw [if_pos (show b2i false = 0 from rfl)]
        show some (Sum.inl (nI x, k, _, nI z + nI 1, u)) = _
        rw [qi_add]
        rfl
      | true =>
        rw [if_neg (show ¬ b2i true = 0 by decide)]
        show some (Sum.inl (nI x, k, _, nI z + nI 1, u)) = _
        rw [qi_add]
        rfl
    · show M_Model_term_b101 (nI x) k (nI (cnt P (s_t s))) (nI (s_t s)) u = _
      unfold M_Model_term_b101
      rw [m1, if_pos ((qi_le (by omega) (by omega)).mpr (Nat.le_refl _))]
  exact key
theorem p_below {u : gSt} {s : GS} {x : Nat} (hd : Dg u s) (hs : Gd s) (hx : x < s_t s) : M_Board_countBelow (nI x) u = some (nI (cnt (fun z => s_ab s z x) (s_t s)), u) := by
  have ht := hs.1
  obtain ⟨d1, d2, d3, d4, d5, d6, -⟩ := hd
  have key : gLp M_Board_countBelow_L4 (nI x, nI (cnt (fun z => s_ab s z x) 0), nI 0, u) = some (nI (cnt (fun z => s_ab s z x) (s_t s)), u) := by
    refine lp_to (S := fun z => (nI x, nI (cnt (fun z => s_ab s z x) z), nI z, u)) (k := 0) (N := s_t s) (Nat.zero_le _) (fun z _ hz => ?_) ?_
    · show M_Board_countBelow_b4 (nI x) (nI (cnt (fun z => s_ab s z x) z)) (nI z) u = some (Sum.inl (nI x, nI (cnt (fun z => s_ab s z x) (z + 1)), nI (z + 1), u))
      unfold M_Board_countBelow_b4 M_Board_countBelow_b27
      have e := cnt_step (P := fun z => s_ab s z x) (k := z) rfl
      rw [← e, d1, if_neg (by rw [qi_le (by omega) (by omega)]; omega), p_has (a := 15) (r := 16) rfl rfl rfl (by omega) (by omega) (show 4 * z + x / 64 < 800 by omega), Option.bind_some, d6 z x (by omega) (by omega)]
      show _ = some (Sum.inl (nI x, nI (cnt (fun z => s_ab s z x) z) + b2i (s_ab s z x), nI (z + 1), u))
      cases s_ab s z x with
      | false =>
        rw [if_neg (show ¬ false = true by decide), if_pos rfl]
        show some (Sum.inl (nI x, nI (cnt (fun z => s_ab s z x) z), nI z + nI 1, u)) = some (Sum.inl (nI x, nI (cnt (fun z => s_ab s z x) z) + nI 0, nI (z + 1), u))
        rw [qi_add, qi_add]
        rfl
      | true =>
        rw [if_pos (show true = true from rfl), if_neg (show ¬ (1 : Int32) = 0 by decide)]
        show some (Sum.inl (nI x, nI (cnt (fun z => s_ab s z x) z) + 1, nI z + nI 1, u)) = _
        rw [qi_add]
        rfl
    · show M_Board_countBelow_b4 (nI x) (nI (cnt (fun z => s_ab s z x) (s_t s))) (nI (s_t s)) u = _
      unfold M_Board_countBelow_b4
      rw [d1, if_pos ((qi_le (by omega) (by omega)).mpr (Nat.le_refl _))]
  have key2 : gLp M_Board_countBelow_L4 (nI x, (0 : Int32), (0 : Int32), u) = some (nI (cnt (fun z => s_ab s z x) (s_t s)), u) := key
  unfold M_Board_countBelow
  rw [key2]
  rfl
theorem p_row {u : gSt} {s : GS} {a r x : Nat} {P : Nat → Bool} (hs : Gd s) (hx : x < s_t s) (h1 : gK a = 5) (h2 : gFR a 0 = some r) (h3 : gK r = 24) (h4 : gLen r = 800) (hg : ∀ y, y < 256 → gb u r x y = P y) (hP : ∀ y, P y = true → y < s_t s) : M_Grid_count a (nI x) u = some (nI (cnt P (s_t s)), u) := by
  have ht := hs.1
  rw [p_count h1 h2 h3 (by omega) (by omega), cnt_congr 256 hg, cnt_cut (t := s_t s) 256 (by omega) (fun j h5 _ => ?_)]
  cases h : P j with
  | false => rfl
  | true => exact absurd (hP j h) (by omega)
theorem p_c5 {L j : Nat} {xs : Nat → Int32} {u : gSt} {s : GS} (hL : L ≤ 3072) (h : 6 * j + 6 ≤ L) (hs : Gd s) (hd : Dg u s) (hm : Mg u s) : (∃ (v : Int64) (w : gSt), sp2 (gsF (gsL u 66 0 v) 42 41 0) w s ∧ M_Law_c5 L xs (nI (6 * j)) u = some w) ∨ (∃ k : Int32, M_Law_c5 L xs (nI (6 * j)) u = some (gsF u 42 41 k)) ∨ ∃ (F : Nat → Int64) (v : Int64) (f : Nat → Int32), M_Law_c5 L xs (nI (6 * j)) u = some (gsR (gsF (gsL (gsQ u 26 F) 66 0 v) 42 41 0) 65 f) := by
  have hall := fun (k b : Int32) (u1 u2 : gSt) => q_c5 (L := L) (j := j) (xs := xs) (u := u) (u1 := u1) (u2 := u2) (k := k) (b := b) hL h
  generalize M_Law_c5 L xs (nI (6 * j)) u = V at hall ⊢
  generalize xs (gIx (nI (6 * j) + (1 : Int32))) = x at hall
  generalize xs (gIx (nI (6 * j) + (2 : Int32))) = y at hall
  have ht := hs.1
  have hn := hs.2.1
  rcases p_term (x := x) ht hd.1 with ⟨b1, b2, b3⟩ | ⟨b, hb, rfl, b1, b2, b3⟩
  · refine Or.inr (Or.inl ⟨1, hall 1 0 u _ ?_ ?_ rfl (fun h9 => absurd h9 (show ¬ (1 : Int32) = 0 by decide))⟩)
    · unfold M_Law_term E_Desk_term
      rw [b1]
      rfl
    · unfold M_Model_term M_Model_term_b14 M_Model_term_b44
      rw [b3 u hm.1, Option.bind_some, if_pos rfl, p_fails1]
      rfl
  · have hmod : ∀ (z : Int32) (u1 : gSt), u1.1 42 11 = nI (s_t s) → M_Model_term (nI b) y u1 = if y < 0 then M_Model_term_b32 (nI b) y (gsF u1 42 41 0) else if y ≤ 6 then M_Model_term_b37 (nI b) y 0 (gsF u1 42 41 0) else M_Model_term_b32 (nI b) y (gsF u1 42 41 0) := fun z u1 hu => by
      unfold M_Model_term M_Model_term_b14
      rw [b3 u1 hu, Option.bind_some, if_neg (show ¬ (1 : Int32) = 0 by decide), p_fails0, Option.bind_some, if_pos rfl]
    have hbad : M_Model_term_b32 (nI b) y (gsF u 42 41 0) = some (0, gsF u 42 41 2) := by
      unfold M_Model_term_b32 M_Model_term_b37 M_Model_term_b44
      rw [p_fails1, gsF_F]
      rfl
    have hno : (∀ k : Nat, k < 7 → ¬ y = nI k) → M_Law_term (nI b) y u = some ((2 : Int32), u) := fun hx => by
      unfold M_Law_term E_Desk_term
      rw [b1, Option.bind_some, if_neg (show ¬ (1 : Int32) = 0 by decide), if_neg (show ¬ _ = (0 : Int32) from hx 0 (by decide)), if_neg (show ¬ _ = (1 : Int32) from hx 1 (by decide)), if_neg (show ¬ _ = (2 : Int32) from hx 2 (by decide)), if_neg (show ¬ _ = (3 : Int32) from hx 3 (by decide)), if_neg (show ¬ _ = (4 : Int32) from hx 4 (by decide)), if_neg (show ¬ _ = (5 : Int32) from hx 5 (by decide)), if_neg (show ¬ _ = (6 : Int32) from hx 6 (by decide))]
      rfl
    by_cases c1 : y < 0
    · refine Or.inr (Or.inl ⟨2, hall 2 0 u _ (hno (fun k hk e => ?_)) ?_ rfl (fun h9 => absurd h9 (show ¬ (2 : Int32) = 0 by decide))⟩)
      · subst e
        rw [show (0 : Int32) = nI 0 from rfl, qi_lt (by omega) (by omega)] at c1
        omega
      · rw [hmod 0 u hm.1, if_pos c1]
        exact hbad
    · by_cases c2 : y ≤ (6 : Int32)
      · obtain ⟨k, rfl, hk⟩ := qi_to (n := 6) c1 c2 (by decide)
        have hM : ∀ u1 : gSt, u1.1 42 11 = nI (s_t s) → M_Model_term (nI b) (nI k) u1 = M_Model_term_b37 (nI b) (nI k) 0 (gsF u1 42 41 0) := fun u1 hu => by
          rw [hmod 0 u1 hu, if_neg c1, if_pos c2]
        have hE : k < 7 → E_Desk_term (nI b) (nI k) u = none := fun hk7 => by
          unfold E_Desk_term
          rw [b1, Option.bind_some, if_neg (show ¬ (1 : Int32) = 0 by decide)]
          rcases (by omega : k = 0 ∨ k = 1 ∨ k = 2 ∨ k = 3 ∨ k = 4 ∨ k = 5 ∨ k = 6) with rfl | rfl | rfl | rfl | rfl | rfl | rfl <;> rfl
        have hLw : ∀ (b9 : Int32) (u9 : gSt), M_Desk_term (nI b) (nI k) u = some (b9, u9) → M_Law_term (nI b) (nI k) u = some (0, gsL u9 66 0 b9.toInt64) := fun b9 u9 e => by
          unfold M_Law_term
          rw [hE (by omega)]
          show (M_Desk_term (nI b) (nI k) u).bind _ = _
          rw [e]
          rfl
        have hDe : M_Desk_term (nI b) (nI k) u = (if nI k = (0 : Int32) then ((M_Grid_count 13 (nI b) u).bind fun q72 => some (q72.1, q72.2)) else if nI k = (1 : Int32) then ((M_Grid_count 15 (nI b) u).bind fun q84 => some (q84.1, q84.2)) else if nI k = (2 : Int32) then ((M_Board_countBelow (nI b) u).bind fun q93 => some (q93.1, q93.2)) else if nI k = (3 : Int32) then ((M_Board_genesAt (nI b) u).bind fun q102 => some (q102.1, q102.2)) else if nI k = (4 : Int32) then ((M_Board_studiedAt (nI b) u).bind fun q111 => some (q111.1, q111.2)) else if nI k = (5 : Int32) then ((M_Board_isOld (nI b) u).bind fun q120 => if q120.1 = (0 : Int32) then (M_Desk_term_b131 (0 : Int32) q120.2) else (M_Desk_term_b131 (1 : Int32) q120.2)) else if nI k = (6 : Int32) then ((M_Board_longestWayUp (nI b) u).bind fun q137 => some (q137.1, q137.2)) else none) := by
          unfold M_Desk_term
          rw [b2, Option.bind_some, if_neg (show ¬ (1 : Int32) = 0 by decide)]
        have yes : ∀ (b9 : Int32), M_Desk_term (nI b) (nI k) u = some (b9, u) → (∃ w, sp2 (gsF (gsL u 66 0 b9.toInt64) 42 41 0) w s ∧ M_Model_term_b37 (nI b) (nI k) 0 (gsF (gsL u 66 0 b9.toInt64) 42 41 0) = some (b9, w)) → (∃ (v : Int64) (w : gSt), sp2 (gsF (gsL u 66 0 v) 42 41 0) w s ∧ V = some w) ∨ (∃ k : Int32, V = some (gsF u 42 41 k)) ∨ ∃ (F : Nat → Int64) (v : Int64) (f : Nat → Int32), V = some (gsR (gsF (gsL (gsQ u 26 F) 66 0 v) 42 41 0) 65 f) := fun b9 e1 e2 => by
          obtain ⟨w, hw, e2⟩ := e2
          refine Or.inl ⟨_, w, hw, hall 0 b9 _ w (hLw b9 u e1) ((hM (gsL u 66 0 b9.toInt64) hm.1).trans e2) ?_ (fun _ => ?_)⟩
          · rw [sp2_F hw (by omega)]
            rfl
          · rw [sp2_L hw]
            rfl
        have cn : ∀ (P : Nat → Bool) (v : Int64), ¬ nI k = 3 → ¬ nI k = 4 → ¬ nI k = 5 → ¬ nI k = 6 → (∀ (c : Int32) (z : Nat), z < s_t s → ¬ nI (s_t s) ≤ nI z → M_Model_term_b101 (nI b) (nI k) c (nI z) (gsF (gsL u 66 0 v) 42 41 0) = M_Model_term_b164 (nI b) (nI k) c (nI z) (b2i (P z)) (gsF (gsL u 66 0 v) 42 41 0)) → M_Model_term_b37 (nI b) (nI k) 0 (gsF (gsL u 66 0 v) 42 41 0) = some (nI (cnt P (s_t s)), gsF (gsL u 66 0 v) 42 41 0) := fun P v h3 h4 h5 h6 hr => by
          unfold M_Model_term_b37
          rw [p_fails0, gsF_F, Option.bind_some, if_pos rfl, if_neg h3, if_neg h4, if_neg h5, if_neg h6]
          show ((gLp M_Model_term_L101 (nI b, nI k, (0 : Int32), (0 : Int32), gsF (gsL u 66 0 v) 42 41 0)).bind _) = _
          rw [p_mcount (u := gsF (gsL u 66 0 v) 42 41 0) (s := s) (P := P) hm hs hr]
          rfl
        have gn : ∀ (fl : Bool) (v : Int64), nI k = (if fl then 4 else 3) → M_Model_term_b37 (nI b) (nI k) 0 (gsF (gsL u 66 0 v) 42 41 0) = some (nI (s_at s fl b), sp (gsF (gsL u 66 0 v) 42 41 0) (s_t s) (s_n s)) := fun fl v hk9 => by
          have hg := p_genesAt (u := gsF (gsL u 66 0 v) 42 41 0) (s := s) (y := b) (fl := fl) hm hs hb
          unfold M_Model_term_b37 M_Model_term_b56 M_Model_term_b68
          rw [p_fails0, gsF_F, Option.bind_some, if_pos rfl, hk9]
          cases fl with
          | true =>
            rw [if_neg (show ¬ (if true = true then (4 : Int32) else 3) = 3 by decide), if_pos (show (if true = true then (4 : Int32) else 3) = 4 from rfl), if_pos (show (if true = true then (4 : Int32) else 3) = 4 from rfl)]
            show (M_Model_genesAt (nI b) (b2i true) _).bind _ = _
            rw [hg]
            rfl
          | false =>
            rw [if_pos (show (if false = true then (4 : Int32) else 3) = 3 from rfl), if_neg (show ¬ (if false = true then (4 : Int32) else 3) = 4 by decide)]
            show (M_Model_genesAt (nI b) (b2i false) _).bind _ = _
            rw [hg]
            rfl
        have hm0 := hm
        have hd0 := hd
        obtain ⟨m1, m2, m3, m4, m5, m6, m7, m8, m9, m10, m11⟩ := hm
        obtain ⟨d1, d2, d3, d4, d5, d6, d7, d8, d9, d10⟩ := hd
        rcases (by omega : k = 0 ∨ k = 1 ∨ k = 2 ∨ k = 3 ∨ k = 4 ∨ k = 5 ∨ k = 6) with rfl | rfl | rfl | rfl | rfl | rfl | rfl
        · refine yes (nI (cnt (s_lk s b) (s_t s))) ?_ ⟨_, Or.inl rfl, cn (s_lk s b) _ (by decide) (by decide) (by decide) (by decide) (fun c z hz hz2 => ?_)⟩
          · rw [hDe, if_pos (show nI 0 = (0 : Int32) from rfl), p_row (a := 13) (r := 14) (P := s_lk s b) hs hb rfl rfl rfl rfl (fun y hy => d5 b y (by omega) hy) (fun y hy => (lk_lt hs hy).2)]
            rfl
          · unfold M_Model_term_b101
            rw [show (gsF (gsL u 66 0 (nI (cnt (s_lk s b) (s_t s))).toInt64) 42 41 0).1 42 11 = nI (s_t s) from m1, if_neg hz2, if_pos (show nI 0 = (0 : Int32) from rfl), p_200, gc_t (qi_in (n := gLen 50) (by omega) (show 200 * b + z < 40000 by omega)), qi_ix (by omega), show (gsF (gsL u 66 0 (nI (cnt (s_lk s b) (s_t s))).toInt64) 42 41 0).2.2.1 50 (200 * b + z) = b2i (s_lk s b z) from m5 b z (by omega) (by omega)]
        · refine yes (nI (cnt (s_ab s b) (s_t s))) ?_ ⟨_, Or.inl rfl, cn (s_ab s b) _ (by decide) (by decide) (by decide) (by decide) (fun c z hz hz2 => ?_)⟩
          · rw [hDe, if_neg (by decide), if_pos (show nI 1 = (1 : Int32) from rfl), p_row (a := 15) (r := 16) (P := s_ab s b) hs hb rfl rfl rfl rfl (fun y hy => d6 b y (by omega) hy) (fun y hy => (hs.2.2.2.1 b y hy).2)]
            rfl
          · unfold M_Model_term_b101
            rw [show (gsF (gsL u 66 0 (nI (cnt (s_ab s b) (s_t s))).toInt64) 42 41 0).1 42 11 = nI (s_t s) from m1, if_neg hz2, if_neg (by decide), if_pos (show nI 1 = (1 : Int32) from rfl), p_200, gc_t (qi_in (n := gLen 51) (by omega) (show 200 * b + z < 40000 by omega)), qi_ix (by omega), show (gsF (gsL u 66 0 (nI (cnt (s_ab s b) (s_t s))).toInt64) 42 41 0).2.2.1 51 (200 * b + z) = b2i (s_ab s b z) from m6 b z (by omega) (by omega)]
        · refine yes (nI (cnt (fun z => s_ab s z b) (s_t s))) ?_ ⟨_, Or.inl rfl, cn (fun z => s_ab s z b) _ (by decide) (by decide) (by decide) (by decide) (fun c z hz hz2 => ?_)⟩
          · rw [hDe, if_neg (by decide), if_neg (by decide), if_pos (show nI 2 = (2 : Int32) from rfl), p_below hd0 hs hb]
            rfl
          · unfold M_Model_term_b101
            rw [show (gsF (gsL u 66 0 (nI (cnt (fun z => s_ab s z b) (s_t s))).toInt64) 42 41 0).1 42 11 = nI (s_t s) from m1, if_neg hz2, if_neg (by decide), if_neg (by decide), p_200, gc_t (qi_in (n := gLen 51) (by omega) (show 200 * z + b < 40000 by omega)), qi_ix (by omega), show (gsF (gsL u 66 0 (nI (cnt (fun z => s_ab s z b) (s_t s))).toInt64) 42 41 0).2.2.1 51 (200 * z + b) = b2i (s_ab s z b) from m6 z b (by omega) (by omega)]
        · refine yes (nI (s_at s false b)) ?_ ⟨_, Or.inr rfl, gn false _ rfl⟩
          rw [hDe, if_neg (by decide), if_neg (by decide), if_neg (by decide), if_pos (show nI 3 = (3 : Int32) from rfl), p_at hd0 hs hb]
          rfl
        · refine yes (nI (s_at s true b)) ?_ ⟨_, Or.inr rfl, gn true _ rfl⟩
          rw [hDe, if_neg (by decide), if_neg (by decide), if_neg (by decide), if_neg (by decide), if_pos (show nI 4 = (4 : Int32) from rfl), p_studiedAt hd0 hs hb]
          rfl
        · refine yes (b2i (s_ol s b)) ?_ ⟨_, Or.inl rfl, ?_⟩
          · rw [hDe, if_neg (by decide), if_neg (by decide), if_neg (by decide), if_neg (by decide), if_neg (by decide), if_pos (show nI 5 = (5 : Int32) from rfl), p_isOld hd0 (by omega), Option.bind_some]
            cases s_ol s b <;> rfl
          · unfold M_Model_term_b37
            rw [p_fails0, gsF_F, Option.bind_some, if_pos rfl, if_neg (by decide), if_neg (by decide), if_pos (show nI 5 = (5 : Int32) from rfl), gc_t (qi_in (n := gLen 49) (by omega) (show b < 200 by omega)), qi_ix (by omega)]
            show some (u.2.2.1 49 b, _) = _
            rw [m9 b hb]
        · obtain ⟨K, hK, w1, w2⟩ := last_of (P := fun k => wy s k b) 200 rfl (wy_200 hs b)
          obtain ⟨F, e1⟩ := p_lw hd0 hs hb hK w1 w2
          have hm9 : Mg (gsF (gsL (gsQ u 26 F) 66 0 (nI K).toInt64) 42 41 0) s := hm0
          obtain ⟨f, K2, e2, w3, w4⟩ := p_wayOf hm9 hs hb
          obtain rfl := wy_uni w1 w2 w3 w4
          refine Or.inr (Or.inr ⟨F, (nI K).toInt64, f, hall 0 (nI K) _ _ (hLw (nI K) (gsQ u 26 F) ?_) ?_ rfl (fun _ => rfl)⟩)
          · rw [hDe, if_neg (by decide), if_neg (by decide), if_neg (by decide), if_neg (by decide), if_neg (by decide), if_neg (by decide), if_pos (show nI 6 = (6 : Int32) from rfl), e1]
            rfl
          · rw [hM (gsL (gsQ u 26 F) 66 0 (nI K).toInt64) m1]
            unfold M_Model_term_b37
            rw [p_fails0, gsF_F, Option.bind_some, if_pos rfl, if_neg (by decide), if_neg (by decide), if_neg (by decide), if_pos (show nI 6 = (6 : Int32) from rfl), e2]
            rfl
      · refine Or.inr (Or.inl ⟨2, hall 2 0 u _ (hno (fun k hk e => ?_)) ?_ rfl (fun h9 => absurd h9 (show ¬ (2 : Int32) = 0 by decide))⟩)
        · subst e
          rw [show (6 : Int32) = nI 6 from rfl, qi_le (by omega) (by omega)] at c2
          omega
        · rw [hmod 0 u hm.1, if_neg c1, if_neg c2]
          exact hbad
