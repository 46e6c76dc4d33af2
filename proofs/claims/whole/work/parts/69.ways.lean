/-! Ways up: the class's steps. -/
theorem anyR_s {P : Nat → Bool} : ∀ (d x : Nat), anyR P x (d + 1) = (anyR P x d || P (x + d))
  | 0, x => by
    show (P x || false) = (false || P (x + 0))
    rw [Bool.or_false, Bool.false_or, Nat.add_zero]
  | d + 1, x => by
    show (P x || anyR P (x + 1) (d + 1)) = ((P x || anyR P (x + 1) d) || P (x + (d + 1)))
    rw [anyR_s d (x + 1), Bool.or_assoc, show x + 1 + d = x + (d + 1) by omega]
/-- there is a way of k links up from x -/
def wy (s : GS) : Nat → Nat → Bool
  | 0, _ => true
  | k + 1, x => anyR (fun p => s_lk s x p && wy s k p) 0 (s_t s)
/-- what k links up from x reach -/
def rs (s : GS) (x : Nat) : Nat → Nat → Bool
  | 0, z => decide (z = x)
  | k + 1, z => anyR (fun y => rs s x k y && s_lk s y z) 0 (s_t s)
theorem wy_iff {s : GS} {k x : Nat} : wy s (k + 1) x = true ↔ ∃ p, p < s_t s ∧ s_lk s x p = true ∧ wy s k p = true := by
  show anyR (fun p => s_lk s x p && wy s k p) 0 (s_t s) = true ↔ _
  rw [anyR_iff]
  constructor
  · rintro ⟨p, -, h1, h2⟩
    rw [Bool.and_eq_true] at h2
    exact ⟨p, by omega, h2.1, h2.2⟩
  · rintro ⟨p, h1, h2, h3⟩
    exact ⟨p, Nat.zero_le _, by omega, by rw [h2, h3]; rfl⟩
theorem rs_iff {s : GS} {x k z : Nat} : rs s x (k + 1) z = true ↔ ∃ y, y < s_t s ∧ rs s x k y = true ∧ s_lk s y z = true := by
  show anyR (fun y => rs s x k y && s_lk s y z) 0 (s_t s) = true ↔ _
  rw [anyR_iff]
  constructor
  · rintro ⟨p, -, h1, h2⟩
    rw [Bool.and_eq_true] at h2
    exact ⟨p, by omega, h2.1, h2.2⟩
  · rintro ⟨p, h1, h2, h3⟩
    exact ⟨p, Nat.zero_le _, by omega, by rw [h2, h3]; rfl⟩
theorem lk_lt {s : GS} (hs : Gd s) {x y : Nat} (h : s_lk s x y = true) : x < s_t s ∧ y < s_t s := hs.2.2.2.1 x y (hs.2.2.1 x y h)
theorem wy_down {s : GS} : ∀ (k x : Nat), wy s (k + 1) x = true → wy s k x = true
  | 0, _, _ => rfl
  | k + 1, x, h => by
    obtain ⟨p, h1, h2, h3⟩ := wy_iff.mp h
    exact wy_iff.mpr ⟨p, h1, h2, wy_down k p h3⟩
theorem rs_wy {s : GS} (hs : Gd s) {x : Nat} : ∀ (k m : Nat), (∃ y, rs s x k y = true ∧ wy s m y = true) ↔ wy s (k + m) x = true
  | 0, m => by
    rw [Nat.zero_add]
    constructor
    · rintro ⟨y, h1, h2⟩
      have e : y = x := of_decide_eq_true h1
      rw [← e]
      exact h2
    · intro h
      exact ⟨x, decide_eq_true rfl, h⟩
  | k + 1, m => by
    rw [show k + 1 + m = k + (m + 1) by omega, ← rs_wy hs k (m + 1)]
    constructor
    · rintro ⟨y, h1, h2⟩
      obtain ⟨w, w1, w2, w3⟩ := rs_iff.mp h1
      exact ⟨w, w2, wy_iff.mpr ⟨y, (lk_lt hs w3).2, w3, h2⟩⟩
    · rintro ⟨w, h1, h2⟩
      obtain ⟨y, y1, y2, y3⟩ := wy_iff.mp h2
      exact ⟨y, rs_iff.mpr ⟨w, (lk_lt hs y2).1, h1, y2⟩, y3⟩
theorem cnt_mono {P Q : Nat → Bool} : ∀ (k : Nat), (∀ j, j < k → P j = true → Q j = true) → cnt P k ≤ cnt Q k
  | 0, _ => Nat.le_refl _
  | k + 1, h => by
    have h1 := cnt_mono k (fun j hj => h j (by omega))
    have h2 := h k (by omega)
    unfold cnt
    cases hp : P k with
    | false =>
      rw [if_neg (by decide)]
      omega
    | true =>
      rw [h2 hp]
      omega
theorem cnt_lt {P Q : Nat → Bool} : ∀ (k : Nat), (∀ j, j < k → P j = true → Q j = true) → (∃ j, j < k ∧ Q j = true ∧ P j = false) → cnt P k < cnt Q k
  | 0, _, h => by
    obtain ⟨j, hj, -⟩ := h
    omega
  | k + 1, h, hx => by
    have h2 := h k (by omega)
    obtain ⟨j, hj, h3, h4⟩ := hx
    by_cases e : j = k
    · subst e
      have h1 := cnt_mono j (fun i hi => h i (by omega))
      unfold cnt
      rw [h3, h4, if_neg (by decide), if_pos rfl]
      omega
    · have h1 := cnt_lt k (fun i hi => h i (by omega)) ⟨j, by omega, h3, h4⟩
      unfold cnt
      cases hp : P k with
      | false =>
        rw [if_neg (by decide)]
        omega
      | true =>
        rw [h2 hp]
        omega
theorem cnt_true : ∀ k, cnt (fun _ => true) k = k
  | 0 => rfl
  | k + 1 => by
    show cnt (fun _ => true) k + 1 = k + 1
    rw [cnt_true k]
theorem cnt_0 {P : Nat → Bool} : ∀ (k : Nat), cnt P k = 0 ↔ ∀ j, j < k → P j = false
  | 0 => ⟨fun _ j hj => by omega, fun _ => rfl⟩
  | k + 1 => by
    have ih := cnt_0 (P := P) k
    unfold cnt
    constructor
    · intro h j hj
      by_cases e : j = k
      · subst e
        cases hp : P j with
        | false => rfl
        | true =>
          rw [hp, if_pos rfl] at h
          omega
      · exact ih.mp (by omega) j (by omega)
    · intro h
      rw [ih.mpr (fun j hj => h j (by omega)), h k (by omega)]
      rfl
theorem wy_le {s : GS} (hs : Gd s) : ∀ (k x : Nat), wy s k x = true → k ≤ cnt (s_ab s x) (s_t s)
  | 0, _, _ => Nat.zero_le _
  | k + 1, x, h => by
    obtain ⟨p, h1, h2, h3⟩ := wy_iff.mp h
    have h4 := wy_le hs k p h3
    obtain ⟨a1, a2, a3, a4, a5, a6, -⟩ := hs
    have h5 := a3 x p h2
    have h6 : cnt (s_ab s p) (s_t s) < cnt (s_ab s x) (s_t s) := cnt_lt (s_t s) (fun j _ hj => a5 x p j h5 hj) ⟨p, h1, h5, a6 p⟩
    omega
theorem wy_200 {s : GS} (hs : Gd s) (x : Nat) : wy s 200 x = false := by
  cases h : wy s 200 x with
  | false => rfl
  | true =>
    have h1 := wy_le hs 200 x h
    obtain ⟨p, h2, h3, -⟩ := wy_iff.mp h
    have hx := (lk_lt hs h3).1
    have h4 : cnt (s_ab s x) (s_t s) < cnt (fun _ => true) (s_t s) := cnt_lt (s_t s) (fun _ _ _ => rfl) ⟨x, hx, rfl, hs.2.2.2.2.2.1 x⟩
    rw [cnt_true] at h4
    have := hs.1
    omega
theorem last_of {P : Nat → Bool} : ∀ (n : Nat), P 0 = true → P n = false → ∃ k, k < n ∧ P k = true ∧ P (k + 1) = false
  | 0, h, h2 => by
    rw [h] at h2
    cases h2
  | n + 1, h, h2 => by
    cases hp : P n with
    | true => exact ⟨n, by omega, hp, h2⟩
    | false =>
      obtain ⟨k, h3, h4, h5⟩ := last_of n h hp
      exact ⟨k, by omega, h4, h5⟩
theorem wy_to {s : GS} : ∀ (d k x : Nat), wy s (k + d) x = true → wy s k x = true
  | 0, _, _, h => h
  | d + 1, k, x, h => wy_to d k x (wy_down (k + d) x h)
theorem rs_cnt {s : GS} (hs : Gd s) {x k : Nat} (hx : x < s_t s) : cnt (rs s x k) 256 = 0 ↔ wy s k x = false := by
  have ht := hs.1
  have h := rs_wy hs (x := x) k 0
  rw [cnt_0]
  constructor
  · intro h1
    cases hw : wy s k x with
    | false => rfl
    | true =>
      obtain ⟨y, h2, -⟩ := h.mpr hw
      have hy : y < 256 := by
        cases k with
        | zero =>
          have : y = x := of_decide_eq_true h2
          omega
        | succ k =>
          obtain ⟨w, -, -, w3⟩ := rs_iff.mp h2
          have := (lk_lt hs w3).2
          omega
      rw [h1 y hy] at h2
      cases h2
  · intro h1 y hy
    cases hr : rs s x k y with
    | false => rfl
    | true =>
      have := h.mp ⟨y, hr, rfl⟩
      rw [Nat.add_zero, h1] at this
      cases this
theorem m_2 : ∀ j, j < 256 → nI j - nI j / (2 : Int32) * (2 : Int32) = nI (j % 2) := by decide +kernel
theorem m_21 : ∀ j, j < 256 → 1 ≤ j → (nI j - (1 : Int32)) - (nI j - (1 : Int32)) / (2 : Int32) * (2 : Int32) = nI ((j - 1) % 2) := by decide +kernel
/-- one link more: the row to gets what the row fr reaches -/
theorem p_lwIn {u : gSt} {s : GS} {j fr to : Nat} {A : Nat → Bool} {F : Nat → Int64} (hd : Dg u s) (hs : Gd s) (hf : fr < 2) (ht2 : to < 2) (hne : fr ≠ to) (hA : ∀ y, y < 256 → gb (gsQ u 26 F) 26 fr y = A y) (h0 : ∀ y, y < 256 → gb (gsQ u 26 F) 26 to y = false) : ∃ F', gLp M_Board_longestWayUp_L48 (nI j, nI fr, nI to, (0 : Int32), gsQ u 26 F) = some (nI j, nI to, gsQ u 26 F') ∧ ∀ y, y < 256 → gb (gsQ u 26 F') 26 to y = anyR (fun o => A o && s_lk s o y) 0 (s_t s) := by
  have ht := hs.1
  obtain ⟨d1, d2, d3, d4, d5, -⟩ := hd
  have key := lp_rel (f := M_Board_longestWayUp_L48) (Po := fun z => ∃ F', z = (nI j, nI to, gsQ u 26 F') ∧ ∀ y, y < 256 → gb (gsQ u 26 F') 26 to y = anyR (fun o => A o && s_lk s o y) 0 (s_t s)) (fun k x => ∃ F', x = (nI j, nI fr, nI to, nI k, gsQ u 26 F') ∧ (∀ y, y < 256 → gb (gsQ u 26 F') 26 fr y = A y) ∧ ∀ y, y < 256 → gb (gsQ u 26 F') 26 to y = anyR (fun o => A o && s_lk s o y) 0 k) (s_t s) 0 (s_t s) (by omega) ?_ ?_ (nI j, nI fr, nI to, (0 : Int32), gsQ u 26 F) ⟨F, rfl, hA, h0⟩
  · obtain ⟨z, e, F', rfl, h⟩ := key
    exact ⟨F', e, h⟩
  · rintro k x - hk ⟨F1, rfl, a1, a2⟩
    have hh := p_has (a := 25) (r := 26) (row := fr) (i := k) (u := gsQ u 26 F1) rfl rfl rfl (by omega) (by omega) (show 4 * fr + k / 64 < 8 by omega)
    have hb : M_Board_longestWayUp_L48 (nI j, nI fr, nI to, nI k, gsQ u 26 F1) = M_Board_longestWayUp_b48 (nI j) (nI fr) (nI to) (nI k) (gsQ u 26 F1) := rfl
    rw [hb]
    unfold M_Board_longestWayUp_b48 M_Board_longestWayUp_b85
    rw [show (gsQ u 26 F1).1 4 9 = nI (s_t s) from d1, if_neg (by rw [qi_le (by omega) (by omega)]; omega), hh, Option.bind_some, a1 k (by omega)]
    cases hAk : A k with
    | false =>
      refine ⟨_, ?_, F1, rfl, a1, fun y hy => ?_⟩
      · rw [if_neg (show ¬ false = true by decide), if_pos rfl]
        show some (Sum.inl (nI j, nI fr, nI to, nI k + nI 1, _)) = _
        rw [qi_add]
      · rw [a2 y hy, anyR_s, Nat.zero_add]
        show _ = (_ || (A k && s_lk s k y))
        rw [hAk, Bool.false_and, Bool.or_false]
    | true =>
      obtain ⟨F2, e2, g2⟩ := p_join (a := 25) (r := 26) (row := to) (a' := 13) (r' := 14) (row' := k) (u := gsQ u 26 F1) rfl rfl rfl (by omega) (show 4 * to + 3 < 8 by omega) rfl rfl rfl (by omega) (show 4 * k + 3 < 800 by omega)
      rw [gsQ_Q] at e2 g2
      refine ⟨_, ?_, F2, rfl, fun y hy => ?_, fun y hy => ?_⟩
      · rw [if_pos (show true = true from rfl), if_neg (show ¬ (1 : Int32) = 0 by decide), e2, Option.bind_some]
        show some (Sum.inl (nI j, nI fr, nI to, nI k + nI 1, _)) = _
        rw [qi_add]
      · rw [g2 fr y hy, decide_eq_false hne, Bool.false_and, Bool.or_false, a1 y hy]
      · rw [g2 to y hy, decide_eq_true rfl, Bool.true_and, a2 y hy, gb_b (by decide), d5 k y (by omega) hy, anyR_s, Nat.zero_add]
        show _ = (_ || (A k && s_lk s k y))
        rw [hAk, Bool.true_and]
  · rintro x ⟨F1, rfl, a1, a2⟩
    refine ⟨_, ?_, F1, rfl, a2⟩
    show M_Board_longestWayUp_b48 (nI j) (nI fr) (nI to) (nI (s_t s)) (gsQ u 26 F1) = _
    unfold M_Board_longestWayUp_b48
    rw [show (gsQ u 26 F1).1 4 9 = nI (s_t s) from d1, if_pos ((qi_le (by omega) (by omega)).mpr (Nat.le_refl _))]
theorem p_lwStep {u : gSt} {s : GS} {j x : Nat} {F : Nat → Int64} (hd : Dg u s) (hs : Gd s) (hj1 : 1 ≤ j) (hj : j < 200) (hx : x < s_t s) (hA : ∀ y, y < 256 → gb (gsQ u 26 F) 26 ((j - 1) % 2) y = rs s x (j - 1) y) : ∃ F', (∀ y, y < 256 → gb (gsQ u 26 F') 26 (j % 2) y = rs s x j y) ∧ M_Board_longestWayUp_b18 (nI j) (gsQ u 26 F) = if wy s j x = true then some (.inl (nI (j + 1), gsQ u 26 F')) else some (.inr (.inr (nI j, gsQ u 26 F'))) := by
  have ht := hs.1
  obtain ⟨F1, e1, g1⟩ := p_emptyRow (a := 25) (r := 26) (row := j % 2) (u := gsQ u 26 F) rfl rfl rfl (by omega) (show 4 * (j % 2) + 3 < 8 by omega)
  rw [gsQ_Q] at e1 g1
  obtain ⟨F2, e2, g2⟩ := p_lwIn (j := j) (fr := (j - 1) % 2) (to := j % 2) (A := rs s x (j - 1)) (F := F1) hd hs (by omega) (by omega) (by omega) (fun y hy => by rw [g1 _ y hy, decide_eq_false (by omega), hA y hy]; cases rs s x (j - 1) y <;> rfl) (fun y hy => by rw [g1 _ y hy, decide_eq_true rfl]; cases gb (gsQ u 26 F) 26 (j % 2) y <;> rfl)
  have g3 : ∀ y, y < 256 → gb (gsQ u 26 F2) 26 (j % 2) y = rs s x j y := fun y hy => by
    rw [g2 y hy]
    obtain ⟨i, rfl⟩ : ∃ i, j = i + 1 := ⟨j - 1, by omega⟩
    rfl
  refine ⟨F2, g3, ?_⟩
  have hc := rs_cnt hs (x := x) (k := j) hx
  have e3 := p_count (a := 25) (r := 26) (row := j % 2) (u := gsQ u 26 F2) rfl rfl rfl (by omega) (show 4 * (j % 2) + 3 < 8 by omega)
  rw [cnt_congr 256 g3] at e3
  have hcl := cnt_le (P := rs s x j) 256
  unfold M_Board_longestWayUp_b18
  rw [if_neg (show ¬ (200 : Int32) ≤ nI j by rw [show (200 : Int32) = nI 200 from rfl, qi_le (by omega) (by omega)]; omega), m_2 j (by omega), m_21 j (by omega) hj1, e1, Option.bind_some, e2, Option.bind_some, e3, Option.bind_some]
  show (if nI (cnt (rs s x j) 256) = 0 then _ else _) = _
  cases hw : wy s j x with
  | false =>
    rw [if_pos (by rw [hc.mpr hw]; rfl), if_neg (by decide)]
  | true =>
    rw [if_neg (by
      rw [show (0 : Int32) = nI 0 from rfl, qi_eq (by omega) (by omega), hc, hw]
      decide), if_pos rfl]
    show some (Sum.inl (nI j + nI 1, _)) = _
    rw [qi_add]
/-- the class's longest way up is the greatest K with a way of K links -/
theorem p_lw {u : gSt} {s : GS} {x K : Nat} (hd : Dg u s) (hs : Gd s) (hx : x < s_t s) (hK : K < 200) (w1 : wy s K x = true) (w2 : wy s (K + 1) x = false) : ∃ F, M_Board_longestWayUp (nI x) u = some (nI K, gsQ u 26 F) := by
  have ht := hs.1
  unfold M_Board_longestWayUp
  rw [p_Grid_empty (a := 25) (r := 26) rfl rfl rfl (by decide), Option.bind_some]
  generalize hF0 : (fun i => if i < gLen 26 then (0 : Int64) else u.2.2.2 26 i) = F0
  obtain ⟨F1, e1, g1⟩ := p_put (a := 25) (r := 26) (row := 0) (i := x) (u := gsQ u 26 F0) rfl rfl rfl (by decide) (by omega) (show 4 * 0 + x / 64 < 8 by omega)
  rw [gsQ_Q] at e1 g1
  have e1' : M_Grid_put 25 (0 : Int32) (nI x) (gsQ u 26 F0) = some (gsQ u 26 F1) := e1
  rw [e1', Option.bind_some]
  have g2 : ∀ y, y < 256 → gb (gsQ u 26 F1) 26 0 y = rs s x 0 y := fun y hy => by
    rw [g1 0 y hy, decide_eq_true rfl, Bool.true_and]
    have : gb (gsQ u 26 F0) 26 0 y = false := by
      unfold gb
      rw [gsQ_a, ← hF0]
      show lb (if 4 * 0 + y / 64 < 8 then 0 else _) _ = false
      rw [if_pos (by omega), lb_0]
    rw [this, Bool.false_or]
    rfl
  have key := lp_rel (f := M_Board_longestWayUp_L18) (Po := fun z => (K = 199 ∧ ∃ F, z = .inl (gsQ u 26 F)) ∨ ∃ F, z = .inr (nI (K + 1), gsQ u 26 F)) (fun k z => ∃ F, z = (nI k, gsQ u 26 F) ∧ ∀ y, y < 256 → gb (gsQ u 26 F) 26 ((k - 1) % 2) y = rs s x (k - 1) y) K 1 (K + 1) (by omega) ?_ ?_ (nI 1, gsQ u 26 F1) ⟨F1, rfl, g2⟩
  · obtain ⟨z, e, h⟩ := key
    have e' : gLp M_Board_longestWayUp_L18 ((1 : Int32), gsQ u 26 F1) = some z := e
    rw [e', Option.bind_some]
    rcases h with ⟨hK9, F, rfl⟩ | ⟨F, rfl⟩
    · refine ⟨F, ?_⟩
      rw [hK9]
      rfl
    · refine ⟨F, ?_⟩
      show some (nI (K + 1) - nI 1, gsQ u 26 F) = _
      have : nI (K + 1) - nI 1 = nI K := by
        rw [← Int32.toInt_inj, pk_sub_toInt (by omega) (by omega), nI_toInt (by omega)]
        omega
      rw [this]
  · rintro k z h1 h2 ⟨F, rfl, hF⟩
    obtain ⟨F', g3, e3⟩ := p_lwStep hd hs h1 (by omega) hx hF
    rw [if_pos (wy_to (K - k) k x (by rw [show k + (K - k) = K by omega]; exact w1))] at e3
    exact ⟨_, e3, F', rfl, g3⟩
  · rintro z ⟨F, rfl, hF⟩
    by_cases hK9 : K = 199
    · refine ⟨_, ?_, Or.inl ⟨hK9, F, rfl⟩⟩
      show M_Board_longestWayUp_b18 (nI (K + 1)) (gsQ u 26 F) = _
      unfold M_Board_longestWayUp_b18
      rw [if_pos (show (200 : Int32) ≤ nI (K + 1) by rw [show (200 : Int32) = nI 200 from rfl, qi_le (by omega) (by omega)]; omega)]
    · obtain ⟨F', g3, e3⟩ := p_lwStep hd hs (by omega) (by omega) hx hF
      rw [if_neg (by rw [w2]; decide)] at e3
      exact ⟨_, e3, Or.inr ⟨F', rfl⟩⟩
