/-! The model's gene and link. -/
theorem q_geneL {u : gSt} {Tx : Nat → Int32} {l b w c : Nat} (hT : tM u Tx l) (hwl : w ≤ l) (hbw : b < w) (ha : al Tx (w - b) b = true) (hz : w - b ≤ 12) (hc : u.1 42 10 = nI c) (hc2 : c < 200) (hb : u.1 42 22 = nI b) (hw : u.1 42 23 = nI w) : ∃ F, gLp M_Model_gene_L80 (nI b, u) = some (gsR u 47 F) ∧ (∀ i, ¬ (12 * c ≤ i ∧ i < 12 * c + (w - b)) → F i = u.2.2.1 47 i) ∧ ∀ k, k < w - b → F (12 * c + k) = Tx (b + k) := by
  have hl := hT.1
  refine ⟨fun i => if 12 * c ≤ i ∧ i < 12 * c + (w - b) then Tx (b + (i - 12 * c)) else u.2.2.1 47 i, ?_, fun i hi => if_neg hi, fun k hk => ?_⟩
  · have e0 : (nI b, u) = (fun j => (nI (b + j), gsR u 47 (fun i => if 12 * c ≤ i ∧ i < 12 * c + j then Tx (b + (i - 12 * c)) else u.2.2.1 47 i))) 0 := by
      show _ = (nI (b + 0), gsR u 47 (fun i => if 12 * c ≤ i ∧ i < 12 * c + 0 then Tx (b + (i - 12 * c)) else u.2.2.1 47 i))
      rw [gsR_0]
      · rfl
      · funext i
        rw [if_neg (by omega)]
    rw [e0]
    refine lp_to (S := fun j => (nI (b + j), gsR u 47 (fun i => if 12 * c ≤ i ∧ i < 12 * c + j then Tx (b + (i - 12 * c)) else u.2.2.1 47 i))) (k := 0) (N := w - b) (Nat.zero_le _) (fun j _ hj => ?_) ?_
    · show M_Model_gene_b80 (nI (b + j)) (gsR u 47 (fun i => if 12 * c ≤ i ∧ i < 12 * c + j then Tx (b + (i - 12 * c)) else u.2.2.1 47 i)) = some (Sum.inl (nI (b + (j + 1)), gsR u 47 (fun i => if 12 * c ≤ i ∧ i < 12 * c + (j + 1) then Tx (b + (i - 12 * c)) else u.2.2.1 47 i)))
      obtain ⟨y, hy, y1, y2⟩ := isL_r (al_at _ _ ha j hj)
      unfold M_Model_gene_b80
      rw [show (gsR u 47 (fun i => if 12 * c ≤ i ∧ i < 12 * c + j then Tx (b + (i - 12 * c)) else u.2.2.1 47 i)).1 42 23 = nI w from hw, if_neg (by rw [qi_le (by omega) (by omega)]; omega), gc_t (qi_in (n := gLen 43) (by omega) (show b + j < 40000 by omega)), show (gsR u 47 (fun i => if 12 * c ≤ i ∧ i < 12 * c + j then Tx (b + (i - 12 * c)) else u.2.2.1 47 i)).1 42 10 = nI c from hc, show (gsR u 47 (fun i => if 12 * c ≤ i ∧ i < 12 * c + j then Tx (b + (i - 12 * c)) else u.2.2.1 47 i)).1 42 22 = nI b from hb, show (12 : Int32) = nI 12 from rfl, qi_mul, qi_add, qi_sub (by omega) (by omega), show 12 * c + (b + j) - b = 12 * c + j by omega, gc_t (qi_in (n := gLen 47) (by omega) (show 12 * c + j < 2400 by omega)), qi_ix (by omega), qi_ix (by omega), gsR_b (by decide), hT.2.2 (b + j) (by omega), hy, i8 y (by omega), Option.bind_some, gsA_R, gsR_R, gsR_a]
      show some (Sum.inl (nI (b + j) + nI 1, _)) = _
      rw [qi_add, show b + j + 1 = b + (j + 1) by omega]
      refine congrArg (fun f => some (Sum.inl (nI (b + (j + 1)), gsR u 47 f))) ?_
      funext i
      show (if i = 12 * c + j then nI y else (if 12 * c ≤ i ∧ i < 12 * c + j then Tx (b + (i - 12 * c)) else u.2.2.1 47 i)) = _
      by_cases e : i = 12 * c + j
      · rw [if_pos e, if_pos (by omega), show i - 12 * c = j by omega, hy]
      · rw [if_neg e]
        by_cases e2 : 12 * c ≤ i ∧ i < 12 * c + j
        · rw [if_pos e2, if_pos (by omega)]
        · rw [if_neg e2, if_neg (by omega)]
    · show M_Model_gene_b80 (nI (b + (w - b))) _ = _
      unfold M_Model_gene_b80
      rw [show (gsR u 47 (fun i => if 12 * c ≤ i ∧ i < 12 * c + (w - b) then Tx (b + (i - 12 * c)) else u.2.2.1 47 i)).1 42 23 = nI w from hw, if_pos ((qi_le (by omega) (by omega)).mpr (by omega))]
  · show (if 12 * c ≤ 12 * c + k ∧ 12 * c + k < 12 * c + (w - b) then Tx (b + (12 * c + k - 12 * c)) else u.2.2.1 47 (12 * c + k)) = _
    rw [if_pos (by omega), show 12 * c + k - 12 * c = k by omega]
theorem q_gen {u : gSt} {s : GS} {T G : NS} {Tx : Nat → Int32} {l b w : Nat} (hm : MA u s T G) (hg : GA s T G) (hT : tM u Tx l) (hwl : w ≤ l) (hbw : b < w) (hn : nm Tx b w = true) (hc : s_n s < 200) (hb : u.1 42 22 = nI b) (hw : u.1 42 23 = nI w) : ∃ v, (gc (gIn (u.1 42 10) (gLen 48)) <| (some (gsA u 48 (gIx (u.1 42 10)) ((u.1 42 23) - (u.1 42 22)))).bind fun u74 => (gLp M_Model_gene_L80 (u74.1 42 22, u74)).bind fun y80 => (some (gsF y80 42 10 ((y80.1 42 10) + (1 : Int32)))).bind fun u126 => (some (gsF u126 42 17 (0 : Int32))).bind fun u131 => some u131) = some v ∧ FM u v ∧ (v.1 42 2 = u.1 42 2 ∧ v.1 42 3 = u.1 42 3) ∧ MA v (s_gen s) T (n_push G (w - b) (fun k => (Tx (b + k)).toInt.toNat) (s_n s)) := by
  unfold nm at hn
  rw [Bool.and_eq_true] at hn
  have h12 := of_decide_eq_true hn.1
  have ha := hn.2
  have hl := hT.1
  have hcn := hg.2.2.2.2.1
  have hst := hg.1.2.2.2.2.2.2.2.2.1
  obtain ⟨⟨m1, m2, m3, m4, m5, m6, m7, m8, m9, m10, m11, m12⟩, n1, n2, n3⟩ := hm
  have hT' : tM (gsA u 48 (s_n s) (nI (w - b))) Tx l := hT
  obtain ⟨F, e, f1, f2⟩ := q_geneL (u := gsA u 48 (s_n s) (nI (w - b))) hT' hwl hbw ha h12 m2 hc hb hw
  refine ⟨gsF (gsF (gsR (gsA u 48 (s_n s) (nI (w - b))) 47 F) 42 10 (nI (s_n s + 1))) 42 17 0, ?_, ?_, ⟨rfl, rfl⟩, ⟨m1, rfl, m3, m4, m5, m6, m7, fun h => absurd rfl h, m9, m10, ?_, m12⟩, n1, ⟨?_, fun i hi => ?_⟩, n3⟩
  · rw [m2, gc_t (qi_in (n := gLen 48) (by omega) (show s_n s < 200 from hc)), qi_ix (by omega), hb, hw, qi_sub (by omega) (by omega), Option.bind_some]
    show (gLp M_Model_gene_L80 (u.1 42 22, gsA u 48 (s_n s) (nI (w - b)))).bind _ = _
    rw [hb, e, Option.bind_some]
    show some (gsF (gsF (gsR (gsA u 48 (s_n s) (nI (w - b))) 47 F) 42 10 (u.1 42 10 + nI 1)) 42 17 0) = _
    rw [m2, qi_add]
  · exact FM_t (FM_t (FM_t (FM_A (by decide) (by decide)) (FM_R (by decide) (by decide))) (FM_F (by decide) (by decide))) (FM_F (by decide) (by decide))
  · show u.1 42 21 = nI (cnt (s_st s) (s_n s + 1))
    have e1 : s_st s (s_n s) = false := by
      cases c : s_st s (s_n s) with
      | false => rfl
      | true =>
        have := hst _ c
        omega
    rw [m11]
    show _ = nI (cnt (s_st s) (s_n s) + (if s_st s (s_n s) then 1 else 0))
    rw [e1]
    rfl
  · show nI (s_n s + 1) = nI (n_c G + 1)
    rw [hcn]
  · have hi' : i < n_c G + 1 := hi
    show (if i = s_n s then nI (w - b) else u.2.2.1 48 i) = nI (if i = n_c G then w - b else n_z G i) ∧ ∀ k, k < (if i = n_c G then w - b else n_z G i) → F (12 * i + k) = nI ((if i = n_c G then (fun k => (Tx (b + k)).toInt.toNat) else n_l G i) k)
    rw [← hcn] at f1 f2 ⊢
    by_cases e9 : i = n_c G
    · simp only [if_pos e9]
      refine ⟨trivial, fun k hk => ?_⟩
      rw [e9, f2 k hk]
      obtain ⟨y, hy, y1, y2⟩ := isL_r (al_at _ _ ha k hk)
      rw [hy, nI_toInt (by omega)]
      congr 1
    · simp only [if_neg e9]
      obtain ⟨a1, a2⟩ := n2.2 i (by omega)
      have hz := (hg.2.2.1.1 i (by omega)).2.1
      refine ⟨a1, fun k hk => ?_⟩
      rw [f1 (12 * i + k) (by omega)]
      exact a2 k hk
/-- one row of the closure -/
theorem q_linkRow {u : gSt} {s : GS} {lo hi x : Nat} {F : Nat → Int32} {A : Nat → Nat → Bool} (ht : s_t s ≤ 200) (h1 : u.1 42 11 = nI (s_t s)) (hx : x < s_t s) (hhi : hi < s_t s) (hne : x ≠ hi) (hF : ∀ a b, a < 200 → b < 200 → F (200 * a + b) = b2i (A a b)) (hAh : ∀ y, A hi y = s_ab s hi y) : ∃ F', gLp M_Model_link_L193 (nI lo, nI hi, nI x, (0 : Int32), gsR u 51 F) = some (nI lo, nI hi, nI x, gsR u 51 F') ∧ ∀ a b, a < 200 → b < 200 → F' (200 * a + b) = b2i (A a b || (decide (a = x) && (decide (b < s_t s) && (decide (b = hi) || s_ab s hi b)))) := by
  have key := lp_rel (f := M_Model_link_L193) (Po := fun z => ∃ F', z = (nI lo, nI hi, nI x, gsR u 51 F') ∧ ∀ a b, a < 200 → b < 200 → F' (200 * a + b) = b2i (A a b || (decide (a = x) && (decide (b < s_t s) && (decide (b = hi) || s_ab s hi b))))) (fun k z => ∃ F', z = (nI lo, nI hi, nI x, nI k, gsR u 51 F') ∧ ∀ a b, a < 200 → b < 200 → F' (200 * a + b) = b2i (A a b || (decide (a = x) && (decide (b < k) && (decide (b = hi) || s_ab s hi b))))) (s_t s) 0 (s_t s) (by omega) ?_ ?_ (nI lo, nI hi, nI x, (0 : Int32), gsR u 51 F) ⟨F, rfl, fun a b ha hb => by rw [hF a b ha hb, decide_eq_false (show ¬ b < 0 by omega), Bool.false_and, Bool.and_false, Bool.or_false]⟩
  · obtain ⟨z, e, F', rfl, h⟩ := key
    exact ⟨F', e, h⟩
  · rintro k z - hk ⟨F2, rfl, h2⟩
    have hhk : F2 (200 * hi + k) = b2i (s_ab s hi k) := by
      rw [h2 hi k (by omega) (by omega), decide_eq_false (Ne.symm hne), Bool.false_and, Bool.or_false, hAh k]
    have hb : M_Model_link_L193 (nI lo, nI hi, nI x, nI k, gsR u 51 F2) = M_Model_link_b193 (nI lo) (nI hi) (nI x) (nI k) (gsR u 51 F2) := rfl
    have yes : M_Model_link_b224 (nI lo) (nI hi) (nI x) (nI k) (gsR u 51 F2) = some (Sum.inl (nI lo, nI hi, nI x, nI (k + 1), gsR u 51 (upd F2 (200 * x + k) 1))) := by
      unfold M_Model_link_b224 M_Model_link_b239
      rw [p_200, gc_t (qi_in (n := gLen 51) (by omega) (show 200 * x + k < 40000 by omega)), qi_ix (by omega), Option.bind_some, gsA_R, gsR_R, gsR_a]
      show some (Sum.inl (nI lo, nI hi, nI x, nI k + nI 1, _)) = _
      rw [qi_add]
    have hyes : (decide (k = hi) || s_ab s hi k) = true → ∀ a b, a < 200 → b < 200 → upd F2 (200 * x + k) 1 (200 * a + b) = b2i (A a b || (decide (a = x) && (decide (b < k + 1) && (decide (b = hi) || s_ab s hi b)))) := fun c a b ha hb9 => by
      show (if 200 * a + b = 200 * x + k then 1 else F2 (200 * a + b)) = _
      by_cases e : a = x ∧ b = k
      · obtain ⟨e1, e2⟩ := e
        subst e1 e2
        rw [if_pos rfl, c, decide_eq_true (show a = a from rfl), decide_eq_true (show b < b + 1 by omega), Bool.true_and, Bool.true_and, Bool.or_true]
        rfl
      · rw [if_neg (by omega), h2 a b ha hb9]
        by_cases e1 : a = x
        · rw [show decide (b < k + 1) = decide (b < k) from decide_eq_decide.mpr ⟨fun _ => by omega, fun _ => by omega⟩]
        · rw [decide_eq_false e1, Bool.false_and, Bool.false_and]
    have hnot : (decide (k = hi) || s_ab s hi k) = false → ∀ a b, a < 200 → b < 200 → F2 (200 * a + b) = b2i (A a b || (decide (a = x) && (decide (b < k + 1) && (decide (b = hi) || s_ab s hi b)))) := fun c a b ha hb9 => by
      rw [h2 a b ha hb9]
      by_cases e1 : b = k
      · subst e1
        simp only [c, Bool.and_false]
      · rw [show decide (b < k + 1) = decide (b < k) from decide_eq_decide.mpr ⟨fun _ => by omega, fun _ => by omega⟩]
    rw [hb]
    unfold M_Model_link_b193
    rw [show (gsR u 51 F2).1 42 11 = nI (s_t s) from h1, if_neg (by rw [qi_le (by omega) (by omega)]; omega)]
    by_cases c1 : k = hi
    · refine ⟨_, ?_, upd F2 (200 * x + k) 1, rfl, hyes (by rw [decide_eq_true c1]; rfl)⟩
      rw [if_pos (by rw [c1])]
      exact yes
    · rw [if_neg (by rw [qi_eq (by omega) (by omega)]; exact c1), p_200, gc_t (qi_in (n := gLen 51) (by omega) (show 200 * hi + k < 40000 by omega)), qi_ix (by omega), gsR_a, hhk]
      cases c2 : s_ab s hi k with
      | false =>
        refine ⟨_, ?_, F2, rfl, hnot (by rw [decide_eq_false c1, c2]; rfl)⟩
        rw [if_pos (show b2i false = 0 from rfl)]
        show some (Sum.inl (nI lo, nI hi, nI x, nI k + nI 1, _)) = _
        rw [qi_add]
      | true =>
        refine ⟨_, ?_, upd F2 (200 * x + k) 1, rfl, hyes (by rw [c2, Bool.or_true])⟩
        rw [if_neg (show ¬ b2i true = 0 by decide)]
        exact yes
  · rintro z ⟨F2, rfl, h2⟩
    refine ⟨_, ?_, F2, rfl, h2⟩
    show M_Model_link_b193 (nI lo) (nI hi) (nI x) (nI (s_t s)) (gsR u 51 F2) = _
    unfold M_Model_link_b193
    rw [show (gsR u 51 F2).1 42 11 = nI (s_t s) from h1, if_pos ((qi_le (by omega) (by omega)).mpr (Nat.le_refl _))]
theorem q_linkAll {u : gSt} {s : GS} {lo hi : Nat} (hs : Gd s) (h1 : u.1 42 11 = nI (s_t s)) (h6 : ∀ x y, x < 200 → y < 200 → u.2.2.1 51 (200 * x + y) = b2i (s_ab s x y)) (hlo : lo < s_t s) (hhi : hi < s_t s) (hne : lo ≠ hi) (hno : s_ab s hi lo = false) : ∃ F, gLp M_Model_link_L156 (nI lo, nI hi, (0 : Int32), u) = some (gsR u 51 F) ∧ ∀ a b, a < 200 → b < 200 → F (200 * a + b) = b2i (s_ab (s_lnk s lo hi) a b) := by
  have ht := hs.1
  have h4 := hs.2.2.2.1
  have ab_lt : ∀ x y, ¬ (x < s_t s ∧ y < s_t s) → s_ab s x y = false := fun x y h => by
    cases h9 : s_ab s x y with
    | false => rfl
    | true => exact absurd (h4 x y h9) h
  have key := lp_rel (f := M_Model_link_L156) (Po := fun z => ∃ F, z = gsR u 51 F ∧ ∀ a b, a < 200 → b < 200 → F (200 * a + b) = b2i (s_ab (s_lnk s lo hi) a b)) (fun k z => ∃ F, z = (nI lo, nI hi, nI k, gsR u 51 F) ∧ ∀ a b, a < 200 → b < 200 → F (200 * a + b) = b2i (s_ab s a b || (decide (a < k) && ((decide (a = lo) || s_ab s a lo) && (decide (b = hi) || s_ab s hi b))))) (s_t s) 0 (s_t s) (by omega) ?_ ?_ (nI lo, nI hi, (0 : Int32), u) ⟨u.2.2.1 51, by rw [gsR_0 rfl]; rfl, fun a b ha hb => by rw [h6 a b ha hb, decide_eq_false (show ¬ a < 0 by omega), Bool.false_and, Bool.or_false]⟩
  · obtain ⟨z, e, F, rfl, h⟩ := key
    exact ⟨F, e, h⟩
  · rintro k z - hk ⟨F, rfl, h2⟩
    have hkl : F (200 * k + lo) = b2i (s_ab s k lo) := by
      rw [h2 k lo (by omega) (by omega), decide_eq_false (show ¬ k < k by omega), Bool.false_and, Bool.or_false]
    have hb : M_Model_link_L156 (nI lo, nI hi, nI k, gsR u 51 F) = M_Model_link_b156 (nI lo) (nI hi) (nI k) (gsR u 51 F) := rfl
    have yes : (decide (k = lo) || s_ab s k lo) = true → ∃ z', M_Model_link_b190 (nI lo) (nI hi) (nI k) (gsR u 51 F) = some (Sum.inl z') ∧ ∃ F, z' = (nI lo, nI hi, nI (k + 1), gsR u 51 F) ∧ ∀ a b, a < 200 → b < 200 → F (200 * a + b) = b2i (s_ab s a b || (decide (a < k + 1) && ((decide (a = lo) || s_ab s a lo) && (decide (b = hi) || s_ab s hi b)))) := fun c => by
      have hkh : k ≠ hi := fun e => by
        subst e
        rw [decide_eq_false (Ne.symm hne), hno] at c
        cases c
      obtain ⟨F2, e2, g2⟩ := q_linkRow (lo := lo) (A := fun a b => s_ab s a b || (decide (a < k) && ((decide (a = lo) || s_ab s a lo) && (decide (b = hi) || s_ab s hi b)))) ht h1 hk hhi hkh h2 (fun y => by
        show (s_ab s hi y || (decide (hi < k) && ((decide (hi = lo) || s_ab s hi lo) && (decide (y = hi) || s_ab s hi y)))) = _
        rw [decide_eq_false (Ne.symm hne), hno, Bool.or_false, Bool.false_and, Bool.and_false, Bool.or_false])
      refine ⟨_, ?_, F2, rfl, fun a b ha hb9 => ?_⟩
      · unfold M_Model_link_b190 M_Model_link_b245
        rw [e2, Option.bind_some]
        show some (Sum.inl (nI lo, nI hi, nI k + nI 1, _)) = _
        rw [qi_add]
      · rw [g2 a b ha hb9]
        refine congrArg b2i ?_
        show ((s_ab s a b || (decide (a < k) && ((decide (a = lo) || s_ab s a lo) && (decide (b = hi) || s_ab s hi b)))) || (decide (a = k) && (decide (b < s_t s) && (decide (b = hi) || s_ab s hi b)))) = _
        by_cases e : a = k
        · subst e
          rw [decide_eq_false (show ¬ a < a by omega), decide_eq_true (show a < a + 1 by omega), decide_eq_true (show a = a from rfl), c, Bool.false_and, Bool.or_false, Bool.true_and, Bool.true_and, Bool.true_and]
          by_cases cb : b < s_t s
          · rw [decide_eq_true cb, Bool.true_and]
          · rw [decide_eq_false cb, decide_eq_false (show ¬ b = hi by omega), ab_lt hi b (fun h => cb h.2)]
            rfl
        · rw [decide_eq_false e, Bool.false_and, Bool.or_false, show decide (a < k + 1) = decide (a < k) from decide_eq_decide.mpr ⟨fun _ => by omega, fun _ => by omega⟩]
    rw [hb]
    unfold M_Model_link_b156
    rw [show (gsR u 51 F).1 42 11 = nI (s_t s) from h1, if_neg (by rw [qi_le (by omega) (by omega)]; omega)]
    by_cases c1 : k = lo
    · rw [if_pos (by rw [c1])]
      exact yes (by rw [decide_eq_true c1]; rfl)
    · rw [if_neg (by rw [qi_eq (by omega) (by omega)]; exact c1), p_200, gc_t (qi_in (n := gLen 51) (by omega) (show 200 * k + lo < 40000 by omega)), qi_ix (by omega), gsR_a, hkl]
      cases c2 : s_ab s k lo with
      | false =>
        refine ⟨_, ?_, F, rfl, fun a b ha hb9 => ?_⟩
        · rw [if_pos (show b2i false = 0 from rfl)]
          unfold M_Model_link_b245
          show some (Sum.inl (nI lo, nI hi, nI k + nI 1, _)) = _
          rw [qi_add]
        · rw [h2 a b ha hb9]
          by_cases e : a = k
          · subst e
            rw [decide_eq_false c1, c2, Bool.or_false, Bool.false_and, Bool.and_false, Bool.and_false]
          · rw [show decide (a < k + 1) = decide (a < k) from decide_eq_decide.mpr ⟨fun _ => by omega, fun _ => by omega⟩]
      | true =>
        rw [if_neg (show ¬ b2i true = 0 by decide)]
        exact yes (by rw [c2, Bool.or_true])
  · rintro z ⟨F, rfl, h2⟩
    refine ⟨_, ?_, F, rfl, fun a b ha hb9 => ?_⟩
    · show M_Model_link_b156 (nI lo) (nI hi) (nI (s_t s)) (gsR u 51 F) = _
      unfold M_Model_link_b156
      rw [show (gsR u 51 F).1 42 11 = nI (s_t s) from h1, if_pos ((qi_le (by omega) (by omega)).mpr (Nat.le_refl _))]
    · rw [h2 a b ha hb9]
      refine congrArg b2i ?_
      show _ = (s_ab s a b || ((decide (a = lo) || s_ab s a lo) && (decide (b = hi) || s_ab s hi b)))
      by_cases c : a < s_t s
      · rw [decide_eq_true c, Bool.true_and]
      · rw [decide_eq_false c, decide_eq_false (show ¬ a = lo by omega), ab_lt a lo (fun h => c h.1)]
        rfl
theorem q_lnk {u : gSt} {s : GS} {T G : NS} {lo hi : Nat} (hm : MA u s T G) (hs : Gd s) (hlo : lo < s_t s) (hhi : hi < s_t s) (hne : lo ≠ hi) (hno : s_ab s hi lo = false) : ∃ v, (gc (gIn (nI (200 * lo + hi)) (gLen 50)) <| (some (gsA u 50 (200 * lo + hi) (1 : Int32))).bind fun u137 => (some (gsF u137 42 18 ((u137.1 42 18) + (1 : Int32)))).bind fun u145 => (some (gsF u145 42 17 (0 : Int32))).bind fun u150 => (gLp M_Model_link_L156 (nI lo, nI hi, (0 : Int32), u150)).bind fun y156 => some y156) = some v ∧ FM u v ∧ (v.1 42 2 = u.1 42 2 ∧ v.1 42 3 = u.1 42 3) ∧ MA v (s_lnk s lo hi) T G := by
  have ht := hs.1
  obtain ⟨⟨m1, m2, m3, m4, m5, m6, m7, m8, m9, m10, m11, m12⟩, n1, n2, n3⟩ := hm
  obtain ⟨F, e, h⟩ := q_linkAll (u := gsF (gsF (gsA u 50 (200 * lo + hi) 1) 42 18 (nI (s_l s + 1))) 42 17 0) hs m1 m6 hlo hhi hne hno
  refine ⟨gsR (gsF (gsF (gsA u 50 (200 * lo + hi) 1) 42 18 (nI (s_l s + 1))) 42 17 0) 51 F, ?_, ?_, ⟨rfl, rfl⟩, ⟨m1, m2, rfl, m4, fun x y hx hy => ?_, h, m7, fun h => absurd rfl h, m9, m10, m11, m12⟩, n1, n2, n3⟩
  · rw [gc_t (qi_in (n := gLen 50) (by omega) (show 200 * lo + hi < 40000 by omega)), Option.bind_some]
    show (gLp M_Model_link_L156 (nI lo, nI hi, (0 : Int32), gsF (gsF (gsA u 50 (200 * lo + hi) 1) 42 18 (u.1 42 18 + nI 1)) 42 17 0)).bind _ = _
    rw [m3, qi_add, e]
    rfl
  · exact FM_t (FM_t (FM_t (FM_A (by decide) (by decide)) (FM_F (by decide) (by decide))) (FM_F (by decide) (by decide))) (FM_R (by decide) (by decide))
  · show (if 200 * x + y = 200 * lo + hi then 1 else u.2.2.1 50 (200 * x + y)) = b2i (s_lk s x y || (decide (x = lo) && decide (y = hi)))
    by_cases e9 : x = lo ∧ y = hi
    · rw [if_pos (by omega), decide_eq_true e9.1, decide_eq_true e9.2, Bool.and_true, Bool.or_true]
      rfl
    · rw [if_neg (by omega)]
      have : (decide (x = lo) && decide (y = hi)) = false := by
        by_cases c : x = lo
        · rw [decide_eq_false (fun h => e9 ⟨c, h⟩), Bool.and_false]
        · rw [decide_eq_false c, Bool.false_and]
      rw [this, Bool.or_false]
      exact m5 x y hx hy
