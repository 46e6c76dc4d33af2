/-! The class's sort, run. -/
theorem slot_n {v c : Nat} {u : gSt} : M_Ranking_slot (nI v) (nI c) u = some (nI (200 * v + c), u) := by
  unfold M_Ranking_slot
  rw [show (200 : Int32) = nI 200 from rfl, qi_mul, qi_add, Nat.mul_comm]
theorem Sl_R {u : gSt} {a i n p : Nat} {f : Nat → Int32} (ha : a = 34 ∨ a = 35) (h : Sl u i n p) : Sl (gsR u a f) i n p := by
  obtain ⟨h1, h2, h3, h4, h5⟩ := h
  refine ⟨⟨h1.1, fun k hk => ?_⟩, ?_, h3, h4, h5⟩
  · rw [gsR_b (by omega)]
    exact h1.2 k hk
  · rw [gsR_b (by omega)]
    exact h2
theorem srt_in {u : gSt} {f : Nat → Int32} {a cn va i : Nat} {nu de B : Nat → Nat} (ha : a = 34 ∨ a = 35) (hcn : cn ≤ 200) (hva : va < 4) (hi : i < cn) (hf : ∀ k, k < cn → f k = nI (B k)) (hB : ∀ k, k < cn → B k < 200) (hS : ∀ k, k < cn → Sl u (200 * va + B k) (nu (B k)) (de (B k))) (ho : inOrd (fle nu de) B i) : ∀ (d low high : Nat), high ≤ low + d → low ≤ high → high ≤ i → (∀ j, j < low → fle nu de (B j) (B i) = true) → (∀ j, high ≤ j → j < i → fle nu de (B j) (B i) = false) → ∀ s1 s2, ∃ t1 t2, gLp M_Ranking_sort_L22 (a, nI cn, nI va, nI i, nI (B i), nI low, nI high, sc (gsR u a f) s1 s2) = some (a, nI cn, nI va, nI i, nI (B i), nI (posA (fle nu de) B i), sc (gsR u a f) t1 t2) := by
  intro d
  induction d with
  | zero =>
    intro low high h1 h2 h3 h4 h5 s1 s2
    obtain rfl : low = high := by omega
    refine ⟨s1, s2, gLp_done ?_⟩
    have e : posA (fle nu de) B i = low := cnt_split i h3 h4 h5
    rw [e]
    show M_Ranking_sort_b22 a (nI cn) (nI va) (nI i) (nI (B i)) (nI low) (nI low) (sc (gsR u a f) s1 s2) = _
    unfold M_Ranking_sort_b22
    rw [if_pos ((qi_le (by omega) (by omega)).mpr (Nat.le_refl _))]
  | succ d ih =>
    intro low high h1 h2 h3 h4 h5 s1 s2
    by_cases c : low = high
    · subst c
      refine ⟨s1, s2, gLp_done ?_⟩
      have e : posA (fle nu de) B i = low := cnt_split i h3 h4 h5
      rw [e]
      show M_Ranking_sort_b22 a (nI cn) (nI va) (nI i) (nI (B i)) (nI low) (nI low) (sc (gsR u a f) s1 s2) = _
      unfold M_Ranking_sort_b22
      rw [if_pos ((qi_le (by omega) (by omega)).mpr (Nat.le_refl _))]
    · have ka : (gK a == 22) = true := by rcases ha with rfl | rfl <;> rfl
      have la : gLen a = 200 := by rcases ha with rfl | rfl <;> rfl
      have hm : (low + high) / 2 < i := by omega
      have hBi := hB i hi
      have hBm := hB ((low + high) / 2) (by omega)
      have q1 := hS i hi
      have q2 := hS ((low + high) / 2) (by omega)
      obtain ⟨t1, t2, e⟩ := p_cmpS (u := gsR u a f) (f := s1) (g := s2) (i := 200 * va + B i) (j := 200 * va + B ((low + high) / 2)) (by omega) (by omega) (Sl_R ha q1) (Sl_R ha q2)
      have hmid : (nI low + nI high) / (2 : Int32) = nI ((low + high) / 2) := by
        rw [qi_add, show (2 : Int32) = nI 2 from rfl, pk_div (by omega) (by decide) (by decide)]
      have hb : M_Ranking_sort_L22 (a, nI cn, nI va, nI i, nI (B i), nI low, nI high, sc (gsR u a f) s1 s2) = if fle nu de (B ((low + high) / 2)) (B i) = true then some (.inl (a, nI cn, nI va, nI i, nI (B i), nI ((low + high) / 2 + 1), nI high, sc (gsR u a f) t1 t2)) else some (.inl (a, nI cn, nI va, nI i, nI (B i), nI low, nI ((low + high) / 2), sc (gsR u a f) t1 t2)) := by
        show M_Ranking_sort_b22 a (nI cn) (nI va) (nI i) (nI (B i)) (nI low) (nI high) (sc (gsR u a f) s1 s2) = _
        unfold M_Ranking_sort_b22 M_Ranking_sort_b72
        rw [if_neg (by rw [qi_le (by omega) (by omega)]; omega), slot_n, Option.bind_some, gc_t ka, hmid, gc_t (qi_in (by omega) (by omega)), qi_ix (by omega)]
        show ((M_Ranking_slot (nI va) ((sc (gsR u a f) s1 s2).2.2.1 a ((low + high) / 2)) (sc (gsR u a f) s1 s2)).bind _) = _
        rw [sc_o (by omega) (by omega), gsR_a, hf _ (by omega), slot_n, Option.bind_some]
        show ((M_Ranking_compareSlots (nI (200 * va + B i)) (nI (200 * va + B ((low + high) / 2))) (sc (gsR u a f) s1 s2)).bind _) = _
        rw [e, Option.bind_some]
        show (if (0 : Int32) ≤ cmp (nu (B i) * de (B ((low + high) / 2))) (nu (B ((low + high) / 2)) * de (B i)) then some (Sum.inl (a, nI cn, nI va, nI i, nI (B i), nI ((low + high) / 2) + nI 1, nI high, sc (gsR u a f) t1 t2)) else _) = _
        rw [qi_add]
        by_cases c2 : nu (B ((low + high) / 2)) * de (B i) ≤ nu (B i) * de (B ((low + high) / 2))
        · rw [if_pos (cmp_nn.mpr c2), if_pos (show fle nu de (B ((low + high) / 2)) (B i) = true from decide_eq_true c2)]
        · rw [if_neg (by rw [cmp_nn]; exact c2), if_neg (by rw [show fle nu de (B ((low + high) / 2)) (B i) = false from decide_eq_false c2]; decide)]
      cases c2 : fle nu de (B ((low + high) / 2)) (B i) with
      | true =>
        rw [c2, if_pos rfl] at hb
        obtain ⟨r1, r2, e2⟩ := ih ((low + high) / 2 + 1) high (by omega) (by omega) h3 (fun j hj => by
          by_cases e9 : j = (low + high) / 2
          · rw [e9]
            exact c2
          · exact fle_tr q2.2.2.1 (ho j _ (by omega) hm) c2) h5 t1 t2
        exact ⟨r1, r2, by rw [gLp_next hb]; exact e2⟩
      | false =>
        rw [c2, if_neg (by decide)] at hb
        obtain ⟨r1, r2, e2⟩ := ih low ((low + high) / 2) (by omega) (by omega) (by omega) h4 (fun j h6 h7 => by
          cases e9 : fle nu de (B j) (B i) with
          | false => rfl
          | true =>
            exfalso
            by_cases e8 : j = (low + high) / 2
            · rw [← e8, e9] at c2
              cases c2
            · have h9 := fle_tr (hS j (by omega)).2.2.1 (ho ((low + high) / 2) j (by omega) h7) e9
              rw [h9] at c2
              cases c2) t1 t2
        exact ⟨r1, r2, by rw [gLp_next hb]; exact e2⟩
theorem p_srt {u : gSt} {f : Nat → Int32} {a cn va : Nat} {nu de A : Nat → Nat} (ha : a = 34 ∨ a = 35) (hcn : cn ≤ 200) (hva : va < 4) (hf : ∀ k, k < cn → f k = nI (A k)) (hA : ∀ k, k < cn → A k < 200) (hS : ∀ k, k < cn → Sl u (200 * va + A k) (nu (A k)) (de (A k))) : ∀ s1 s2, ∃ f' t1 t2, M_Ranking_sort a (nI cn) (nI va) (sc (gsR u a f) s1 s2) = some (sc (gsR u a f') t1 t2) ∧ ∀ k, k < cn → f' k = nI (dsort (fle nu de) A cn k) := by
  intro s1 s2
  have ka : (gK a == 22) = true := by rcases ha with rfl | rfl <;> rfl
  have la : gLen a = 200 := by rcases ha with rfl | rfl <;> rfl
  have hde : ∀ q, q < cn → 0 < de (A q) := fun q hq => (hS q hq).2.2.1
  have d1 : dsort (fle nu de) A 1 = A := by
    funext k
    show insA A 0 (posA (fle nu de) A 0) k = A k
    unfold insA
    by_cases c : k = 0
    · subst c
      rw [if_neg (by show ¬ 0 < 0; omega), if_pos (show 0 = posA (fle nu de) A 0 from rfl)]
    · rw [if_neg (by show ¬ k < 0; omega), if_neg (by show ¬ k = 0; exact c), if_neg (by omega)]
  by_cases c0 : cn = 0
  · subst c0
    refine ⟨f, s1, s2, ?_, fun k hk => by omega⟩
    have e : gLp M_Ranking_sort_L3 (a, nI 0, nI va, (1 : Int32), sc (gsR u a f) s1 s2) = some (sc (gsR u a f) s1 s2) := gLp_done rfl
    unfold M_Ranking_sort
    rw [e]
    rfl
  · have key := lp_rel (f := M_Ranking_sort_L3) (Po := fun z => ∃ f' t1 t2, z = sc (gsR u a f') t1 t2 ∧ ∀ k, k < cn → f' k = nI (dsort (fle nu de) A cn k)) (fun i z => ∃ f' t1 t2, z = (a, nI cn, nI va, nI i, sc (gsR u a f') t1 t2) ∧ ∀ k, k < cn → f' k = nI (dsort (fle nu de) A i k)) (cn - 1) 1 cn (by omega) ?_ ?_ (a, nI cn, nI va, (1 : Int32), sc (gsR u a f) s1 s2) ⟨f, s1, s2, rfl, fun k hk => by rw [d1]; exact hf k hk⟩
    · obtain ⟨z, e, f', t1, t2, rfl, h⟩ := key
      refine ⟨f', t1, t2, ?_, h⟩
      unfold M_Ranking_sort
      rw [e]
      rfl
    · rintro i z h1 hi ⟨g, t1, t2, rfl, h⟩
      have ent : ∀ k, k < cn → ∃ q, q < cn ∧ dsort (fle nu de) A i k = A q := fun k hk => by
        by_cases c : k < i
        · obtain ⟨q, q1, q2⟩ := dsort_of (le := fle nu de) (A := A) i k c
          exact ⟨q, by omega, q2⟩
        · exact ⟨k, hk, dsort_hi i k (by omega)⟩
      have ho := dsort_ord (nu := nu) (de := de) (A := A) cn hde i (by omega)
      obtain ⟨r1, r2, e⟩ := srt_in (u := u) (f := g) (a := a) (cn := cn) (va := va) (i := i) (nu := nu) (de := de) (B := dsort (fle nu de) A i) ha hcn hva hi h (fun k hk => by
        obtain ⟨q, q1, q2⟩ := ent k hk
        rw [q2]
        exact hA q q1) (fun k hk => by
        obtain ⟨q, q1, q2⟩ := ent k hk
        rw [q2]
        exact hS q q1) ho i 0 i (by omega) (by omega) (Nat.le_refl _) (fun j hj => by omega) (fun j h3 h4 => by omega) t1 t2
      have hp := posA_le (le := fle nu de) (A := dsort (fle nu de) A i) (i := i)
      generalize hP : posA (fle nu de) (dsort (fle nu de) A i) i = p at e hp
      refine ⟨_, ?_, upd (va_cpy g g p (p + 1) (i - p)) p (nI (dsort (fle nu de) A i i)), r1, r2, rfl, fun k hk => ?_⟩
      · show M_Ranking_sort_b3 a (nI cn) (nI va) (nI i) (sc (gsR u a g) t1 t2) = _
        have hok : gCpOk a (nI p) a (nI (p + 1)) (nI (i - p)) = true := by
          unfold gCpOk
          rw [nI_toInt (by omega), nI_toInt (by omega), nI_toInt (by omega), la]
          exact decide_eq_true ⟨by omega, by omega, by omega, by omega, by omega⟩
        unfold M_Ranking_sort_b3
        rw [if_neg (by rw [qi_le (by omega) (by omega)]; omega), gc_t ka, gc_t (qi_in (by omega) (by omega)), qi_ix (by omega), sc_o (by omega) (by omega), gsR_a, h i hi]
        show ((gLp M_Ranking_sort_L22 (a, nI cn, nI va, nI i, nI (dsort (fle nu de) A i i), nI 0, nI i, sc (gsR u a g) t1 t2)).bind _) = _
        rw [e, Option.bind_some]
        show (gc (gK a == 22) <| gc (gK a == 22) <| gc (gCpOk a (nI p) a (nI p + nI 1) (nI i - nI p)) <| (some (gsC (sc (gsR u a g) r1 r2) a (nI p) a (nI p + nI 1) (nI i - nI p))).bind fun u88 => gc (gK a == 22) <| gc (gIn (nI p) (gLen a)) <| (some (gsA u88 a (gIx (nI p)) (nI (dsort (fle nu de) A i i)))).bind fun u96 => some (Sum.inl (a, nI cn, nI va, nI i + nI 1, u96))) = _
        rw [gc_t ka, gc_t ka, qi_add, qi_add, pk_sub hp, gc_t hok, Option.bind_some, gc_t ka, gc_t (qi_in (by omega) (by omega)), qi_ix (by omega), Option.bind_some]
        have e5 : gsC (sc (gsR u a g) r1 r2) a (nI p) a (nI (p + 1)) (nI (i - p)) = gsR (sc (gsR u a g) r1 r2) a (va_cpy g g p (p + 1) (i - p)) := by
          unfold gsC
          rw [sc_o (by omega) (by omega), gsR_a, qi_ix (by omega), qi_ix (by omega), qi_ix (by omega)]
          rfl
        have e6 : ∀ (w : gSt) (x y : Nat → Int32), gsR (sc w r1 r2) a y = sc (gsR w a y) r1 r2 := fun w x y => by
          unfold sc gsR
          refine Prod.ext rfl (Prod.ext rfl (Prod.ext (funext fun b => ?_) rfl))
          show (if b = a then y else if b = 37 then r2 else if b = 36 then r1 else w.2.2.1 b) = (if b = 37 then r2 else if b = 36 then r1 else if b = a then y else w.2.2.1 b)
          by_cases b1 : b = a
          · rw [if_pos b1, if_neg (by omega), if_neg (by omega), if_pos b1]
          · rw [if_neg b1, if_neg b1]
        rw [e5, gsA_R, gsR_R, gsR_a, e6 _ r1, gsR_R]
      · show (if k = p then nI (dsort (fle nu de) A i i) else va_cpy g g p (p + 1) (i - p) k) = nI (insA (dsort (fle nu de) A i) i (posA (fle nu de) (dsort (fle nu de) A i) i) k)
        rw [hP]
        unfold insA
        by_cases c1 : k < p
        · rw [if_neg (by omega), if_pos c1, pk_cpy_out (by omega), h k hk]
        · rw [if_neg c1]
          by_cases c2 : k = p
          · rw [if_pos c2, if_pos c2]
          · rw [if_neg c2, if_neg c2]
            by_cases c3 : k ≤ i
            · rw [if_pos c3, pk_cpy_in (by omega) (by omega), show p + (k - (p + 1)) = k - 1 by omega, h (k - 1) (by omega)]
            · rw [if_neg c3, pk_cpy_out (by omega), h k hk]
    · rintro z ⟨g, t1, t2, rfl, h⟩
      refine ⟨_, ?_, g, t1, t2, rfl, h⟩
      show M_Ranking_sort_b3 a (nI cn) (nI va) (nI cn) (sc (gsR u a g) t1 t2) = _
      unfold M_Ranking_sort_b3
      rw [if_pos ((qi_le (by omega) (by omega)).mpr (Nat.le_refl _))]
