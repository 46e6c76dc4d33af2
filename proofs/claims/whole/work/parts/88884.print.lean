/-! The model's print as a whole, and the law's case 11. -/
theorem r_load2 {s : gSt} {v j a p A : Nat} {K : gSt → Option (Int32 × gSt)} (hv : v < 4) (hj : j < 200) (hA : A ≤ 2 ^ 200) (hp : p ≤ 200) (hS : Sv s 63 0 A) (hT : Ts s (4 * j + v) a p) : ∃ t, ((M_Model_load (nI 5) 59 (nI (20 * (4 * j + v))) s).bind fun q83 => (M_Model_load (nI 6) 63 (nI 0) q83).bind fun q94 => gc (gIn (nI (4 * j + v)) (gLen 60)) <| (M_Model_grow (nI 6) ((q94.2.2.1 60 (gIx (nI (4 * j + v)))).toInt64) (0 : Int64) q94).bind fun q109 => (some (gsF q109 42 39 (0 : Int32))).bind K) = K t ∧ FMp s t ∧ Rs t 5 a ∧ Rs t 6 (A * p) ∧ t.1 42 39 = nI 0 := by
  obtain ⟨w1, e1, f1, g1⟩ := r_load (x := 5) (a := 59) (fr := 20 * (4 * j + v)) (by decide) (by decide) (by decide) rfl (show 20 * (4 * j + v) + 20 ≤ 16000 by omega) (by omega) hT.1
  obtain ⟨w2, e2, f2, g2⟩ := r_load (x := 6) (a := 63) (fr := 0) (by decide) (by decide) (by decide) rfl (by decide) (by decide) (Sv_X f1 (by decide) (by decide) hS)
  obtain ⟨w3, e3, f3, g3⟩ := r_grow0 (x := 6) (c := p) (by decide) g2 (by omega) (big48 (Nat.le_trans hA (by decide)) (by omega))
  have h60 : w2.2.2.1 60 (4 * j + v) = nI p := by
    rw [f2.2.2.1 60 (by decide) (by decide), f1.2.2.1 60 (by decide) (by decide)]
    exact hT.2
  refine ⟨gsF w3 42 39 (nI 0), ?_, FMp_t (FMp_X f1) (FMp_t (FMp_X f2) (FMp_t (FMp_X f3) FMp_39)), f3.2.2.2.2 5 _ (by decide) (by decide) (f2.2.2.2.2 5 _ (by decide) (by decide) g1), g3, gF_a⟩
  rw [e1, Option.bind_some, e2, Option.bind_some, gc_t (qi_in (n := gLen 60) (by omega) (show 4 * j + v < 800 by omega)), qi_ix (show 4 * j + v < 2147483648 by omega), h60, e3]
  rfl
noncomputable def prK (x3 : Int32) (u114 : gSt) : Option (Int32 × gSt) := if x3 = (-1 : Int32) then
      ((M_Model_divisor u114).bind fun q123 =>
      (M_Model_copyNumber (2 : Int32) (5 : Int32) q123).bind fun q129 =>
      (M_Model_quotient (1 : Int32) (2 : Int32) (3 : Int32) q129).bind fun q136 =>
      (M_Model_say (1 : Int32) (0 : Int32) q136).bind fun q142 =>
      (M_Model_copyNumber (2 : Int32) (6 : Int32) q142).bind fun q149 =>
      (M_Model_quotient (1 : Int32) (2 : Int32) (3 : Int32) q149).bind fun q156 =>
      gc (gIn (1 : Int32) (gLen 56)) <| if (q156.2.2.1 56 (gIx (1 : Int32))) = (1 : Int32) then
        ((M_Model_digit (1 : Int32) (0 : Int32) q156).bind fun q172 =>
        if q172.1 = (1 : Int32) then
          (M_Model_print_b191 q172.2)
        else
          (M_Model_print_b179 q172.2))
      else
        (M_Model_print_b179 q156))
    else
      ((gLp M_Model_print_L199 (x3, (0 : Int32), u114)).bind fun y199 =>
      (M_Model_quotient (1 : Int32) (5 : Int32) (6 : Int32) y199.2).bind fun q225 =>
      (M_Model_grow (5 : Int32) (2 : Int64) (0 : Int64) q225).bind fun q234 =>
      (M_Model_order (5 : Int32) (6 : Int32) q234).bind fun q241 =>
      if (0 : Int32) < q241.1 then
        (M_Model_print_b268 y199.1 q241.2)
      else
        (if q241.1 = (0 : Int32) then
          ((M_Model_digit (1 : Int32) (0 : Int32) q241.2).bind fun q259 =>
          if (q259.1 &&& (1 : Int32)) = (1 : Int32) then
            (M_Model_print_b268 y199.1 q259.2)
          else
            (M_Model_print_b275 y199.1 q259.2))
        else
          (M_Model_print_b275 y199.1 q241.2)))
theorem r_K {t : gSt} {a b c1 c2 : Nat} {x3 : Int32} (h5 : Rs t 5 a) (h6 : Rs t 6 b) (h0 : 0 < a) (hab : a ≤ b) (hbb : b ≤ 2 ^ 200 * 200) (h39 : t.1 42 39 = nI 0) (h1 : 1 ≤ c1) (h2 : 1 ≤ c2) (hX1 : 10 ^ (c1 - 1) ≤ a / Nat.gcd a b) (hX2 : a / Nat.gcd a b < 10 ^ c1) (hY1 : 10 ^ (c2 - 1) ≤ b / Nat.gcd a b) (hY2 : b / Nat.gcd a b < 10 ^ c2) (hcc : c1 + 1 + c2 ≤ 160) (hx1 : ¬ x3 < (-1 : Int32)) (hx2 : x3 ≤ (40 : Int32)) : ∃ w m T, prK x3 t = some (nI m, w) ∧ FMp t w ∧ w.1 42 39 = nI m ∧ (∀ i, i < m → w.2.2.1 64 i = nI (T i)) ∧ (x3 = -1 → m = jL (b / Nat.gcd a b) c1 c2 ∧ T = jT (a / Nat.gcd a b) (b / Nat.gcd a b) c1 c2) ∧ ∀ q, q ≤ 40 → ¬ x3 = -1 → x3 = nI q → m = txL q ∧ T = tx (rnd a b q) q := by
  have b6 : 2 ^ 200 * 200 < 2 ^ 600 := Nat.lt_of_lt_of_le (show 2 ^ 200 * 200 < 2 ^ 250 by decide) (Nat.pow_le_pow_right (by decide) (by decide))
  by_cases c3 : x3 = (-1 : Int32)
  · obtain ⟨w, e, f, s, c⟩ := r_just h5 h6 h0 hab (Nat.lt_of_le_of_lt (Nat.le_trans hab hbb) b6) (Nat.lt_of_le_of_lt hbb b6) h39 h1 h2 hX1 hX2 hY1 hY2 hcc
    refine ⟨w, _, _, ?_, f, s, c, fun _ => ⟨rfl, rfl⟩, fun q _ h => absurd c3 h⟩
    unfold prK
    rw [if_pos c3]
    exact e
  · obtain ⟨q, hq, rfl⟩ := nI_of (x := x3) (by
      rw [Int32.lt_iff_toInt_lt, show (-1 : Int32).toInt = -1 from rfl] at hx1
      rw [Int32.lt_iff_toInt_lt, Int32.toInt_zero]
      intro h9
      exact c3 (Int32.toInt_inj.mp (by rw [show (-1 : Int32).toInt = -1 from rfl]; omega)))
    have hq40 : q ≤ 40 := by
      rw [show (40 : Int32) = nI 40 from rfl, qi_le hq (by omega)] at hx2
      exact hx2
    obtain ⟨w, e, f, s, c⟩ := r_round h5 h6 (Nat.lt_of_lt_of_le h0 hab) hab hbb h39 hq40
    refine ⟨w, _, _, ?_, f, s, c, fun h => absurd h c3, fun q' hq' _ h => ?_⟩
    · unfold prK
      rw [if_neg c3]
      exact e
    · have := (qi_eq (by omega) (by omega)).mp h
      subst this
      exact ⟨rfl, rfl⟩
def FV (u w : gSt) : Prop := (∀ a j, a ≠ 38 ∨ j ≠ 3 → (a ≠ 42 ∨ (j ≠ 28 ∧ j ≠ 39 ∧ j ≠ 41)) → w.1 a j = u.1 a j) ∧ w.2.1 = u.2.1 ∧ (∀ a, a ≠ 39 → a ≠ 40 → a ≠ 41 → a ≠ 55 → a ≠ 56 → a ≠ 64 → w.2.2.1 a = u.2.2.1 a) ∧ ∀ a, a ≠ 66 → w.2.2.2 a = u.2.2.2 a
set_option maxHeartbeats 1000000 in
theorem p_c11 {L j r : Nat} {xs : Nat → Int32} {u : gSt} (hL : L ≤ 3072) (h : 6 * j + 6 ≤ L) (hr : rw_ok u r) (hpv : PV u r) : (∃ k : Int32, M_Law_c11 L xs (nI (6 * j)) u = some (gsF u 42 41 k)) ∨ ∃ w m, M_Law_c11 L xs (nI (6 * j)) u = some w ∧ m ≤ 160 ∧ w.1 38 3 = nI m ∧ w.1 42 39 = nI m ∧ (∀ i, i < m → w.2.2.1 39 i = w.2.2.1 64 i) ∧ FV u w := by
  have hall := fun (k b : Int32) (u1 u2 : gSt) => q_c11 (L := L) (j := j) (xs := xs) (u := u) (u1 := u1) (u2 := u2) (k := k) (b := b) hL h
  generalize M_Law_c11 L xs (nI (6 * j)) u = V at hall ⊢
  generalize xs (gIx (nI (6 * j) + (1 : Int32))) = x at hall
  generalize xs (gIx (nI (6 * j) + (2 : Int32))) = y at hall
  generalize xs (gIx (nI (6 * j) + (3 : Int32))) = z at hall
  obtain ⟨hr1, hr2, hr3, hr4⟩ := hr
  by_cases c1 : x < 0
  · refine Or.inl ⟨1, hall 1 0 u _ ?_ ?_ rfl (fun h9 => absurd h9 (show ¬ (1 : Int32) = 0 by decide))⟩
    · unfold M_Law_print E_Desk_print P_Ranking_hasRow
      rw [if_pos c1]
      rfl
    · unfold M_Model_print M_Model_print_b13 M_Model_print_b18
      rw [if_pos c1, p_fails1]
      rfl
  · by_cases c2 : nI r ≤ x
    · refine Or.inl ⟨1, hall 1 0 u _ ?_ ?_ rfl (fun h9 => absurd h9 (show ¬ (1 : Int32) = 0 by decide))⟩
      · unfold M_Law_print E_Desk_print P_Ranking_hasRow
        rw [if_neg c1, hr2, if_pos c2]
        rfl
      · unfold M_Model_print M_Model_print_b13 M_Model_print_b18
        rw [if_neg c1, hr3, if_neg (by rw [Int32.lt_iff_toInt_lt]; rw [Int32.le_iff_toInt_le] at c2; omega), p_fails1]
        rfl
    · obtain ⟨i, rfl, hi⟩ := qi_of c1 c2 (by omega)
      have hlt : nI i < nI r := (qi_lt (by omega) (by omega)).mpr hi
      have hP : P_Ranking_hasRow (nI i) u = some 1 := by
        unfold P_Ranking_hasRow
        rw [if_neg c1, hr2, if_neg c2]
      have hH : M_Ranking_hasRow (nI i) u = some (1, u) := by
        unfold M_Ranking_hasRow M_Ranking_hasRow_b17
        rw [if_neg c1, hr2, if_neg c2]
        rfl
      have hbad : M_Model_print_b46 (nI i) y z (gsF u 42 41 0) = some (0, gsF u 42 41 2) := by
        unfold M_Model_print_b46 M_Model_print_b51
        rw [p_fails1, Option.bind_some, if_neg (show ¬ (1 : Int32) = 0 by decide), gsF_F]
        rfl
      have bad : E_Desk_print (nI i) y z u = some 1 → M_Model_print (nI i) y z u = M_Model_print_b46 (nI i) y z (gsF u 42 41 0) → V = some (gsF u 42 41 2) := fun k1 k2 => hall 2 0 u _ (by
        unfold M_Law_print
        rw [k1]
        rfl) (by rw [k2]; exact hbad) rfl (fun h9 => absurd h9 (show ¬ (2 : Int32) = 0 by decide))
      by_cases y1 : y < 0
      · refine Or.inl ⟨2, bad ?_ ?_⟩
        · unfold E_Desk_print
          rw [hP, Option.bind_some, if_neg (show ¬ (1 : Int32) = 0 by decide), if_pos y1]
        · unfold M_Model_print M_Model_print_b18
          rw [if_neg c1, hr3, if_pos hlt, p_fails0, Option.bind_some, if_pos rfl, if_pos y1]
      by_cases y2 : (4 : Int32) ≤ y
      · have y3 : (3 : Int32) < y := by
          rw [Int32.lt_iff_toInt_lt, show (3 : Int32).toInt = 3 from rfl]
          rw [Int32.le_iff_toInt_le, show (4 : Int32).toInt = 4 from rfl] at y2
          omega
        refine Or.inl ⟨2, bad ?_ ?_⟩
        · unfold E_Desk_print
          rw [hP, Option.bind_some, if_neg (show ¬ (1 : Int32) = 0 by decide), if_neg y1, if_pos y2]
        · unfold M_Model_print M_Model_print_b18
          rw [if_neg c1, hr3, if_pos hlt, p_fails0, Option.bind_some, if_pos rfl, if_neg y1, if_pos y3]
      have y3 : ¬ (3 : Int32) < y := by
        rw [Int32.lt_iff_toInt_lt, show (3 : Int32).toInt = 3 from rfl]
        rw [Int32.le_iff_toInt_le, show (4 : Int32).toInt = 4 from rfl] at y2
        omega
      by_cases z1 : z < (-1 : Int32)
      · refine Or.inl ⟨2, bad ?_ ?_⟩
        · unfold E_Desk_print
          rw [hP, Option.bind_some, if_neg (show ¬ (1 : Int32) = 0 by decide), if_neg y1, if_neg y2, if_pos z1]
        · unfold M_Model_print M_Model_print_b18
          rw [if_neg c1, hr3, if_pos hlt, p_fails0, Option.bind_some, if_pos rfl, if_neg y1, if_neg y3, if_pos z1]
      by_cases z2 : ¬ z ≤ (40 : Int32)
      · refine Or.inl ⟨2, bad ?_ ?_⟩
        · unfold E_Desk_print
          rw [hP, Option.bind_some, if_neg (show ¬ (1 : Int32) = 0 by decide), if_neg y1, if_neg y2, if_neg z1, if_neg z2]
        · unfold M_Model_print M_Model_print_b18
          rw [if_neg c1, hr3, if_pos hlt, p_fails0, Option.bind_some, if_pos rfl, if_neg y1, if_neg y3, if_neg z1, if_neg z2]
      have z3 : z ≤ (40 : Int32) := Decidable.not_not.mp z2
      obtain ⟨v, rfl, hv⟩ := qi_of (n := 4) y1 y2 (by decide)
      obtain ⟨A, N, n, c, jj, hA, hN, hN2, hc, hj, hw, hS, e35, e61, hval⟩ := hpv i hi
      obtain ⟨a, p, sl, ts, h0, hap, hp0, hp⟩ := hval v hv
      have hA2 : A ≤ 2 ^ 200 := by
        rw [hA]
        exact ch_200 hN2
      have hbb : A * p ≤ 2 ^ 200 * 200 := Nat.mul_le_mul hA2 hp
      have hg : 0 < Nat.gcd a (A * p) := Nat.gcd_pos_of_pos_left _ h0
      have hX0 : 0 < a / Nat.gcd a (A * p) := Nat.div_pos (Nat.gcd_le_left _ h0) hg
      have hXY : a / Nat.gcd a (A * p) ≤ A * p / Nat.gcd a (A * p) := Nat.div_le_div_right hap
      obtain ⟨k1, k1a, k1b, k1c⟩ := dg_ex _ _ (Nat.le_refl _) hX0
      obtain ⟨k2, k2a, k2b, k2c⟩ := dg_ex _ _ (Nat.le_refl _) (Nat.lt_of_lt_of_le hX0 hXY)
      have hYb : A * p / Nat.gcd a (A * p) ≤ 2 ^ 200 * 200 := Nat.le_trans (Nat.div_le_self _ _) hbb
      have b1 := dg_63 k1b (Nat.le_trans hXY hYb)
      have b2 := dg_63 k2b hYb
      obtain ⟨w1, m, T, e1, t1, f1, j1, q1⟩ := d_print (v := v) hP hH (by omega) hv hA hN hN2 hc e35 hw sl h0 hap z1 z3 k1a k1b k1c k2b k2c (by omega)
      obtain ⟨s, hs⟩ : ∃ s, s = gsL w1 66 0 (nI m).toInt64 := ⟨_, rfl⟩
      have s0 : s.1 = w1.1 := by
        rw [hs]
        rfl
      have s2 : s.2.2.1 = w1.2.2.1 := by
        rw [hs]
        rfl
      have sF : ∀ a j, a ≠ 38 → s.1 a j = u.1 a j := fun a j e => by rw [s0, f1.1 a j (Or.inl e)]
      have sA : ∀ a, a ≠ 39 → a ≠ 40 → a ≠ 41 → s.2.2.1 a = u.2.2.1 a := fun a e f g => by rw [s2, f1.2.2.1 a e f g]
      obtain ⟨s', hs'⟩ : ∃ s', s' = gsF s 42 41 0 := ⟨_, rfl⟩
      have s'A : s'.2.2.1 = s.2.2.1 := by
        rw [hs']
        rfl
      have S63 : Sv s' 63 0 A := ⟨hS.1, fun k hk => by rw [s'A, sA 63 (by decide) (by decide) (by decide)]; exact hS.2 k hk⟩
      have T59 : Ts s' (4 * jj + v) a p := ⟨⟨ts.1.1, fun k hk => by rw [s'A, sA 59 (by decide) (by decide) (by decide)]; exact ts.1.2 k hk⟩, by rw [s'A, sA 60 (by decide) (by decide) (by decide)]; exact ts.2⟩
      obtain ⟨t, et, ft, t5, t6, t39⟩ := r_load2 (K := prK z) hv hj hA2 hp S63 T59
      obtain ⟨w2, m2, T2, e2, f2, w39, w64, j2, q2⟩ := r_K (x3 := z) t5 t6 h0 hap hbb t39 k1a k2a k1b k1c k2b k2c (by omega) z1 z3
      have hmT : m2 = m ∧ T2 = T ∧ m ≤ 160 := by
        by_cases c3 : z = (-1 : Int32)
        · obtain ⟨m1, m3⟩ := j1 c3
          obtain ⟨m4, m5⟩ := j2 c3
          refine ⟨by rw [m4, m1], by rw [m5, m3], ?_⟩
          rw [m1]
          unfold jL
          split <;> omega
        · obtain ⟨q, q3, q4, q5, q6⟩ := q1 c3
          obtain ⟨m4, m5⟩ := q2 q q4 c3 q3
          refine ⟨by rw [m4, q5], by rw [m5, q6], ?_⟩
          rw [q5]
          unfold txL
          split <;> omega
      obtain ⟨rfl, rfl, hm⟩ := hmT
      have em : M_Model_print (nI i) (nI v) z s = some (nI m2, w2) := by
        have e9 : (20 : Int32) * ((4 : Int32) * nI jj + nI v) = nI (20 * (4 * jj + v)) := by
          rw [show (4 : Int32) = nI 4 from rfl, show (20 : Int32) = nI 20 from rfl, qi_mul, qi_add, qi_mul]
        have e8 : (4 : Int32) * nI jj + nI v = nI (4 * jj + v) := by
          rw [show (4 : Int32) = nI 4 from rfl, qi_mul, qi_add]
        have h61 : s'.2.2.1 61 i = nI jj := by
          rw [s'A, sA 61 (by decide) (by decide) (by decide)]
          exact e61
        unfold M_Model_print M_Model_print_b18
        rw [if_neg c1, sF 42 36 (by decide), hr3, if_pos hlt, p_fails0, Option.bind_some, if_pos rfl, if_neg y1, if_neg y3, if_neg z1, if_pos z3]
        unfold M_Model_print_b51
        rw [p_fails0, Option.bind_some, if_pos rfl, gsF_F, ← hs']
        show (gc (gIn (nI i) (gLen 61)) <| (M_Model_load (nI 5) 59 ((20 : Int32) * (((4 : Int32) * (s'.2.2.1 61 (gIx (nI i)))) + nI v)) s').bind fun q83 => (M_Model_load (nI 6) 63 (nI 0) q83).bind fun q94 => gc (gIn (((4 : Int32) * (s'.2.2.1 61 (gIx (nI i)))) + nI v) (gLen 60)) <| (M_Model_grow (nI 6) ((q94.2.2.1 60 (gIx (((4 : Int32) * (s'.2.2.1 61 (gIx (nI i)))) + nI v))).toInt64) (0 : Int64) q94).bind fun q109 => (some (gsF q109 42 39 (0 : Int32))).bind (prK z)) = _
        rw [gc_t (qi_in (n := gLen 61) (by omega) (show i < 200 by omega)), qi_ix (show i < 2147483648 by omega), h61, e9, e8, et, e2]
      refine Or.inr ⟨w2, m2, hall 0 (nI m2) s w2 (by rw [e1, hs]) em ?_ (fun _ => ?_), hm, ?_, w39, fun k hk => ?_, ?_⟩
      · rw [f2.1 42 41 (by decide), ft.1 42 41 (by decide), hs', gF_a]
      · rw [f2.2.2.2, ft.2.2.2, hs', hs]
        rfl
      · rw [f2.1 38 3 (by decide), ft.1 38 3 (by decide), hs', gF_o (by decide), s0]
        exact t1.1
      · rw [w64 k hk, f2.2.2.1 39 (by decide) (by decide) (by decide), ft.2.2.1 39 (by decide) (by decide) (by decide), s'A, s2]
        exact t1.2 k hk
      · refine ⟨fun a j e f => ?_, ?_, fun a a1 a2 a3 a4 a5 a6 => ?_, fun a e => ?_⟩
        · rw [f2.1 a j (by omega), ft.1 a j (by omega), hs', gF_o (by omega), s0]
          exact f1.1 a j e
        · rw [f2.2.1, ft.2.1, hs', hs]
          exact f1.2.1
        · rw [f2.2.2.1 a a4 a5 a6, ft.2.2.1 a a4 a5 a6, s'A]
          exact sA a a1 a2 a3
        · rw [f2.2.2.2, ft.2.2.2, hs', hs]
          have k : (gsL w1 66 0 (nI m2).toInt64).2.2.2 a = w1.2.2.2 a := if_neg e
          show (gsL w1 66 0 (nI m2).toInt64).2.2.2 a = _
          rw [k, f1.2.2.2]
