/-! Wide numbers: set, copy, divide, isMultiple, compare. -/
theorem gsR_e {u : gSt} {r : Nat} {f g : Nat → Int32} (h : ∀ k, f k = g k) : gsR u r f = gsR u r g := congrArg (gsR u r) (funext h)
theorem p_fillI {r : Nat} {x : Int32} {u : gSt} (hk : gK r = 22) (hl : gLen r = 8) : M_Arrays_fillI r x u = some (gsR u r (fun k => if k < 8 then x else u.2.2.1 r k)) := by
  have k1 : (gK r == 22) = true := by rw [hk]; rfl
  have e0 : (r, x, (0 : Int32), Int32.ofNat (gLen r), u) = (fun i => (r, x, nI i, nI 8, gsR u r (fun k => if k < i then x else u.2.2.1 r k))) 0 := by
    show _ = (r, x, nI 0, nI 8, gsR u r (fun k => if k < 0 then x else u.2.2.1 r k))
    rw [gsR_0, hl]
    · rfl
    · funext k
      rw [if_neg (by omega)]
  unfold M_Arrays_fillI
  rw [gc_t k1, e0, lp_to (S := fun i => (r, x, nI i, nI 8, gsR u r (fun k => if k < i then x else u.2.2.1 r k))) (y := gsR u r (fun k => if k < 8 then x else u.2.2.1 r k)) (k := 0) (N := 8) (Nat.zero_le _) (fun i _ hi => ?_) rfl]
  · rfl
  · show M_Arrays_fillI_b5 r x (nI i) (nI 8) (gsR u r (fun k => if k < i then x else u.2.2.1 r k)) = some (Sum.inl (r, x, nI (i + 1), nI 8, gsR u r (fun k => if k < i + 1 then x else u.2.2.1 r k)))
    unfold M_Arrays_fillI_b5
    rw [if_neg (by rw [qi_le (by omega) (by omega)]; omega), gc_t k1, gc_t (qi_in (by omega) (by omega)), qi_ix (by omega), Option.bind_some, gsA_R, gsR_R, gsR_a]
    show some (Sum.inl (r, x, nI i + nI 1, nI 8, _)) = _
    rw [qi_add]
    refine congrArg (fun f => some (Sum.inl (r, x, nI (i + 1), nI 8, gsR u r f))) ?_
    funext k
    show (if k = i then x else (if k < i then x else u.2.2.1 r k)) = _
    by_cases h1 : k = i
    · rw [if_pos h1, if_pos (by omega)]
    · rw [if_neg h1]
      by_cases h2 : k < i
      · rw [if_pos h2, if_pos (by omega)]
      · rw [if_neg h2, if_neg (by omega)]
theorem p_set1 {r : Nat} {u : gSt} (hk : gK r = 22) (hl : gLen r = 8) : M_Wide_set r (1 : Int32) u = some (wr u r 1) := by
  have k1 : (gK r == 22) = true := by rw [hk]; rfl
  have h0 : gIn (0 : Int32) (gLen r) = true := by
    rw [hl]
    decide
  unfold M_Wide_set
  rw [p_fillI hk hl, Option.bind_some, gc_t k1, gc_t h0, gsA_R, gsR_R, gsR_a]
  show some (gsR u r _) = some (gsR u r _)
  refine congrArg some (gsR_e fun k => ?_)
  show (if k = 0 then (1 : Int32) else (if k < 8 then 0 else u.2.2.1 r k)) = (if k < 8 then nI (1 / 1000000000 ^ k % 1000000000) else u.2.2.1 r k)
  by_cases h1 : k = 0
  · subst h1
    rfl
  · rw [if_neg h1]
    by_cases h2 : k < 8
    · rw [if_pos h2, if_pos h2, Nat.div_eq_of_lt (Nat.one_lt_pow (by omega) (by decide))]
      rfl
    · rw [if_neg h2, if_neg h2]
theorem p_copy {u : gSt} {a b v : Nat} (ha : gK a = 22) (hb : gK b = 22) (la : gLen a = 8) (lb9 : gLen b = 8) (hv : Wv u a v) : M_Wide_copy a b u = some (wr u b v) := by
  have k1 : (gK a == 22) = true := by rw [ha]; rfl
  have k2 : (gK b == 22) = true := by rw [hb]; rfl
  have hok : gCpOk a (0 : Int32) b (0 : Int32) (8 : Int32) = true := by
    unfold gCpOk
    rw [la, lb9]
    decide
  unfold M_Wide_copy
  rw [gc_t k1, gc_t k2, gc_t hok, Option.bind_some]
  show some (gsR u b (va_cpy (u.2.2.1 a) (u.2.2.1 b) (gIx (0 : Int32)) (gIx (0 : Int32)) (gIx (8 : Int32)))) = some (gsR u b _)
  refine congrArg some (gsR_e fun k => ?_)
  show va_cpy (u.2.2.1 a) (u.2.2.1 b) 0 0 8 k = _
  by_cases h : k < 8
  · rw [pk_cpy_in (by omega) (by omega), if_pos h, show 0 + (k - 0) = k by omega, hv.2 k h]
  · rw [pk_cpy_out (by omega), if_neg h]
theorem qi_m1 {i : Nat} (h : 1 ≤ i) : nI i + (-1 : Int32) = nI (i - 1) := by
  obtain ⟨j, rfl⟩ : ∃ j, i = j + 1 := ⟨i - 1, by omega⟩
  rw [pk_m1]
  rfl
/-- a loop that counts down: S N, .. S 0, and then the end -/
theorem lp_dn {X Y : Type} {f : X → Option (X ⊕ Y)} (S : Nat → X) {z : X} {y : Y} : ∀ (n : Nat), (∀ j, j < n → f (S (j + 1)) = some (.inl (S j))) → f (S 0) = some (.inl z) → f z = some (.inr y) → gLp f (S n) = some y
  | 0, _, h1, h2 => by
    rw [gLp_next h1]
    exact gLp_done h2
  | n + 1, hs, h1, h2 => by
    rw [gLp_next (hs n (Nat.lt_succ_self n))]
    exact lp_dn S n (fun j hj => hs j (Nat.lt_succ_of_lt hj)) h1 h2
theorem not_0 {c : Nat} (hc : 0 < c) (hc2 : c < 2147483648) : (!((nI c).toInt64 == 0)) = true := by
  rw [nI_l (by omega)]
  have : ¬ lN c = 0 := by
    rw [show (0 : Int64) = lN 0 from rfl, pk_lEQ (by omega) (by omega)]
    omega
  simp [this]
theorem p_divide {u : gSt} {r v c : Nat} (hk : gK r = 22) (hl : gLen r = 8) (hv : Wv u r v) (h0 : 0 < c) (hc : c < 2147483648) : M_Wide_divide r (nI c) u = some (wr u r (v / c)) := by
  have k1 : (gK r == 22) = true := by rw [hk]; rfl
  have hn := not_0 h0 hc
  have hB : (1000000000 : Int64) = lN 1000000000 := rfl
  have step : ∀ i, i < 8 → M_Wide_divide_b12 r (nI c) (lN (v / 1000000000 ^ (i + 1) % c)) (nI i) (gsR u r (fun k => if i < k ∧ k < 8 then nI (v / c / 1000000000 ^ k % 1000000000) else u.2.2.1 r k)) = some (.inl (r, nI c, lN (v / 1000000000 ^ i % c), nI i + (-1 : Int32), gsR u r (fun k => if i ≤ k ∧ k < 8 then nI (v / c / 1000000000 ^ k % 1000000000) else u.2.2.1 r k))) := fun i hi => by
    obtain ⟨m1, m2⟩ := dstep (B := 1000000000) (P := 1000000000 ^ i) (v := v) (c := c) (by decide) h0
    have hr : v / (1000000000 ^ i * 1000000000) % c < c := Nat.mod_lt _ h0
    have hd := wd_lt (v := v) (i := i)
    have w1 : (gsR u r (fun k => if i < k ∧ k < 8 then nI (v / c / 1000000000 ^ k % 1000000000) else u.2.2.1 r k)).2.2.1 r i = nI (v / 1000000000 ^ i % 1000000000) := by
      rw [gsR_a]
      show (if i < i ∧ i < 8 then _ else u.2.2.1 r i) = _
      rw [if_neg (by omega), hv.2 i hi]
    have hb : v / (1000000000 ^ i * 1000000000) % c * 1000000000 + v / 1000000000 ^ i % 1000000000 < 2 ^ 63 := by omega
    unfold M_Wide_divide_b12
    rw [Nat.pow_succ, if_neg (show ¬ nI i < 0 by rw [show (0 : Int32) = nI 0 from rfl, qi_lt (by omega) (by omega)]; omega), gc_t k1, gc_t (qi_in (by omega) (by omega)), gc_t hn, gc_t k1, gc_t (qi_in (by omega) (by omega)), Option.bind_some, gc_t hn, qi_ix (by omega), w1, nI_l (show v / 1000000000 ^ i % 1000000000 < 2 ^ 31 by omega), nI_l (show c < 2 ^ 31 from hc), hB, lN_mul, lN_add, pk_lRem hb h0 (by omega), pk_lDiv hb h0 (by omega), lN_i, m1, m2, gsA_R, gsR_R, gsR_a]
    refine congrArg (fun f => some (Sum.inl (r, nI c, lN (v / 1000000000 ^ i % c), nI i + (-1 : Int32), gsR u r f))) ?_
    funext k
    show (if k = i then nI (v / c / 1000000000 ^ i % 1000000000) else (if i < k ∧ k < 8 then nI (v / c / 1000000000 ^ k % 1000000000) else u.2.2.1 r k)) = _
    by_cases h1 : k = i
    · rw [if_pos h1, if_pos (by omega), h1]
    · rw [if_neg h1]
      by_cases h2 : i < k ∧ k < 8
      · rw [if_pos h2, if_pos (by omega)]
      · rw [if_neg h2, if_neg (by omega)]
  have key : gLp M_Wide_divide_L12 (r, nI c, lN (v / 1000000000 ^ (7 + 1) % c), nI 7, gsR u r (fun k => if 7 < k ∧ k < 8 then nI (v / c / 1000000000 ^ k % 1000000000) else u.2.2.1 r k)) = some (gsR u r (fun k => if 0 ≤ k ∧ k < 8 then nI (v / c / 1000000000 ^ k % 1000000000) else u.2.2.1 r k)) := by
    refine lp_dn (S := fun i => (r, nI c, lN (v / 1000000000 ^ (i + 1) % c), nI i, gsR u r (fun k => if i < k ∧ k < 8 then nI (v / c / 1000000000 ^ k % 1000000000) else u.2.2.1 r k))) (z := (r, nI c, lN (v / 1000000000 ^ 0 % c), nI 0 + (-1 : Int32), gsR u r (fun k => if 0 ≤ k ∧ k < 8 then nI (v / c / 1000000000 ^ k % 1000000000) else u.2.2.1 r k))) 7 (fun j hj => ?_) (step 0 (by decide)) rfl
    have h9 := step (j + 1) (by omega)
    rw [qi_m1 (by omega)] at h9
    show M_Wide_divide_b12 r (nI c) (lN (v / 1000000000 ^ (j + 1 + 1) % c)) (nI (j + 1)) (gsR u r (fun k => if j + 1 < k ∧ k < 8 then nI (v / c / 1000000000 ^ k % 1000000000) else u.2.2.1 r k)) = _
    rw [h9]
    refine congrArg (fun f => some (Sum.inl (r, nI c, lN (v / 1000000000 ^ (j + 1) % c), nI j, gsR u r f))) (funext fun k => ?_)
    by_cases h1 : j + 1 ≤ k ∧ k < 8
    · rw [if_pos h1, if_pos (by omega)]
    · rw [if_neg h1, if_neg (by omega)]
  have e0 : (r, nI c, (0 : Int64), (7 : Int32), u) = (r, nI c, lN (v / 1000000000 ^ (7 + 1) % c), nI 7, gsR u r (fun k => if 7 < k ∧ k < 8 then nI (v / c / 1000000000 ^ k % 1000000000) else u.2.2.1 r k)) := by
    rw [gsR_0, Nat.div_eq_of_lt hv.1, Nat.zero_mod]
    · rfl
    · funext k
      rw [if_neg (by omega)]
  unfold M_Wide_divide
  rw [if_pos (show (1 : Int32) ≤ nI c from (qi_le (a := 1) (by omega) (by omega)).mpr (by omega)), e0, key]
  show some (gsR u r _) = some (gsR u r _)
  refine congrArg some (gsR_e fun k => ?_)
  by_cases h : k < 8
  · rw [if_pos ⟨Nat.zero_le _, h⟩, if_pos h]
  · rw [if_neg (by omega), if_neg h]
theorem p_isMultiple {u : gSt} {r v c : Nat} (hk : gK r = 22) (hl : gLen r = 8) (hv : Wv u r v) (h0 : 0 < c) (hc : c < 2147483648) : M_Wide_isMultiple r (nI c) u = some (b2i (decide (v % c = 0)), u) := by
  have k1 : (gK r == 22) = true := by rw [hk]; rfl
  have hn := not_0 h0 hc
  have hB : (1000000000 : Int64) = lN 1000000000 := rfl
  have step : ∀ i, i < 8 → M_Wide_isMultiple_b13 r (nI c) (lN (v / 1000000000 ^ (i + 1) % c)) (nI i) u = some (.inl (r, nI c, lN (v / 1000000000 ^ i % c), nI i + (-1 : Int32), u)) := fun i hi => by
    obtain ⟨m1, m2⟩ := dstep (B := 1000000000) (P := 1000000000 ^ i) (v := v) (c := c) (by decide) h0
    have hr : v / (1000000000 ^ i * 1000000000) % c < c := Nat.mod_lt _ h0
    have hd := wd_lt (v := v) (i := i)
    have hb : v / (1000000000 ^ i * 1000000000) % c * 1000000000 + v / 1000000000 ^ i % 1000000000 < 2 ^ 63 := by omega
    unfold M_Wide_isMultiple_b13
    rw [Nat.pow_succ, if_neg (show ¬ nI i < 0 by rw [show (0 : Int32) = nI 0 from rfl, qi_lt (by omega) (by omega)]; omega), gc_t k1, gc_t (qi_in (by omega) (by omega)), gc_t hn, qi_ix (by omega), hv.2 i hi, nI_l (show v / 1000000000 ^ i % 1000000000 < 2 ^ 31 by omega), nI_l (show c < 2 ^ 31 from hc), hB, lN_mul, lN_add, pk_lRem hb h0 (by omega), m2]
  have key : gLp M_Wide_isMultiple_L13 (r, nI c, lN (v / 1000000000 ^ (7 + 1) % c), nI 7, u) = some (lN (v / 1000000000 ^ 0 % c), u) := by
    refine lp_dn (S := fun i => (r, nI c, lN (v / 1000000000 ^ (i + 1) % c), nI i, u)) (z := (r, nI c, lN (v / 1000000000 ^ 0 % c), nI 0 + (-1 : Int32), u)) 7 (fun j hj => ?_) (step 0 (by decide)) rfl
    have h9 := step (j + 1) (by omega)
    rw [qi_m1 (by omega)] at h9
    exact h9
  have e0 : (r, nI c, (0 : Int64), (7 : Int32), u) = (r, nI c, lN (v / 1000000000 ^ (7 + 1) % c), nI 7, u) := by
    rw [Nat.div_eq_of_lt hv.1, Nat.zero_mod]
    rfl
  have hr0 : v % c < c := Nat.mod_lt _ h0
  unfold M_Wide_isMultiple M_Wide_isMultiple_b50
  rw [if_pos (show (1 : Int32) ≤ nI c from (qi_le (a := 1) (by omega) (by omega)).mpr (by omega)), e0, key, Option.bind_some, Nat.pow_zero, Nat.div_one]
  show (if lg_cmp (lN (v % c)) 0 = 0 then _ else _) = _
  by_cases h : v % c = 0
  · rw [if_pos (by rw [lg_0, h]; rfl), decide_eq_true h]
    rfl
  · rw [if_neg (by rw [lg_0, show (0 : Int64) = lN 0 from rfl, pk_lEQ (by omega) (by omega)]; exact h), decide_eq_false h]
    rfl
/-- -1, 0 or 1 -/
def cmp (v w : Nat) : Int32 := if v < w then -1 else if v = w then 0 else 1
theorem div_pw {v w P B : Nat} (hP : 0 < P) (hB : 0 < B) (h : v / (P * B) = w / (P * B)) : (v / P % B = w / P % B → v / P = w / P) ∧ (v / P % B < w / P % B → v < w) := by
  rw [← Nat.div_div_eq_div_mul, ← Nat.div_div_eq_div_mul] at h
  have e1 := Nat.mod_add_div (v / P) B
  have e2 := Nat.mod_add_div (w / P) B
  rw [h] at e1
  generalize B * (w / P / B) = z at e1 e2
  constructor
  · intro e
    omega
  · intro e
    have h1 : v / P < w / P := by omega
    rcases Nat.lt_or_ge v w with h2 | h2
    · exact h2
    · have := Nat.div_le_div_right (c := P) h2
      omega
theorem p_compare {u : gSt} {a b v w : Nat} (ha : gK a = 22) (hb : gK b = 22) (la : gLen a = 8) (lb9 : gLen b = 8) (hv : Wv u a v) (hw : Wv u b w) : M_Wide_compare a b u = some (cmp v w, u) := by
  have k1 : (gK a == 22) = true := by rw [ha]; rfl
  have k2 : (gK b == 22) = true := by rw [hb]; rfl
  have step : ∀ i, i < 8 → M_Wide_compare_b3 a b (nI i) u = if v / 1000000000 ^ i % 1000000000 = w / 1000000000 ^ i % 1000000000 then some (.inl (a, b, nI i + (-1 : Int32), u)) else some (.inr (.inr (a, b, nI i, u))) := fun i hi => by
    have hd := wd_lt (v := v) (i := i)
    have he := wd_lt (v := w) (i := i)
    unfold M_Wide_compare_b3
    rw [if_neg (show ¬ nI i < 0 by rw [show (0 : Int32) = nI 0 from rfl, qi_lt (by omega) (by omega)]; omega), gc_t k1, gc_t (qi_in (by omega) (by omega)), gc_t k2, gc_t (qi_in (by omega) (by omega)), qi_ix (by omega), hv.2 i hi, hw.2 i hi]
    by_cases c : v / 1000000000 ^ i % 1000000000 = w / 1000000000 ^ i % 1000000000
    · rw [if_pos (by rw [c]), if_pos c]
    · rw [if_neg (by rw [qi_eq (by omega) (by omega)]; exact c), if_neg c]
  have fin : ∀ i, i < 8 → v / 1000000000 ^ (i + 1) = w / 1000000000 ^ (i + 1) → ((gLp M_Wide_compare_L3 (a, b, nI i, u)).bind fun y3 => (Sum.elim (fun y3_0 => some ((0 : Int32), y3_0)) (fun y3_1 => gc (gK y3_1.1 == 22) <| gc (gIn y3_1.2.2.1 (gLen y3_1.1)) <| gc (gK y3_1.2.1 == 22) <| gc (gIn y3_1.2.2.1 (gLen y3_1.2.1)) <| if (y3_1.2.2.2.2.2.1 y3_1.2.1 (gIx y3_1.2.2.1)) ≤ (y3_1.2.2.2.2.2.1 y3_1.1 (gIx y3_1.2.2.1)) then (M_Wide_compare_b30 (1 : Int32) y3_1.2.2.2) else (M_Wide_compare_b30 (-1 : Int32) y3_1.2.2.2))) y3) = some (cmp v w, u) := by
    intro i
    induction i with
    | zero =>
      intro hi he
      rw [Nat.pow_succ] at he
      obtain ⟨q1, q2⟩ := div_pw (e9_pos 0) (by decide) he
      obtain ⟨q3, q4⟩ := div_pw (e9_pos 0) (by decide) he.symm
      have hd := wd_lt (v := v) (i := 0)
      have hf := wd_lt (v := w) (i := 0)
      by_cases c : v / 1000000000 ^ 0 % 1000000000 = w / 1000000000 ^ 0 % 1000000000
      · have s0 := step 0 hi
        rw [if_pos c] at s0
        have e1 : gLp M_Wide_compare_L3 (a, b, nI 0, u) = some (.inl u) := by
          rw [gLp_next (x' := (a, b, nI 0 + (-1 : Int32), u)) s0]
          exact gLp_done rfl
        have e2 := q1 c
        rw [Nat.pow_zero, Nat.div_one, Nat.div_one] at e2
        rw [e1]
        show some ((0 : Int32), u) = some (cmp v w, u)
        unfold cmp
        rw [e2, if_neg (by omega), if_pos rfl]
      · have s0 := step 0 hi
        rw [if_neg c] at s0
        rw [gLp_done (show M_Wide_compare_L3 (a, b, nI 0, u) = _ from s0), Option.bind_some]
        show (gc (gK a == 22) <| gc (gIn (nI 0) (gLen a)) <| gc (gK b == 22) <| gc (gIn (nI 0) (gLen b)) <| if u.2.2.1 b (gIx (nI 0)) ≤ u.2.2.1 a (gIx (nI 0)) then some ((1 : Int32), u) else some ((-1 : Int32), u)) = _
        rw [gc_t k1, gc_t (qi_in (by omega) (by omega)), gc_t k2, gc_t (qi_in (by omega) (by omega)), qi_ix (by omega), hv.2 0 hi, hw.2 0 hi]
        unfold cmp
        by_cases c2 : w / 1000000000 ^ 0 % 1000000000 ≤ v / 1000000000 ^ 0 % 1000000000
        · have := q4 (by omega)
          rw [if_pos ((qi_le (by omega) (by omega)).mpr c2), if_neg (by omega), if_neg (by omega)]
        · have := q2 (by omega)
          rw [if_neg (by rw [qi_le (by omega) (by omega)]; exact c2), if_pos (by omega)]
    | succ i ih =>
      intro hi he
      rw [Nat.pow_succ] at he
      obtain ⟨q1, q2⟩ := div_pw (e9_pos (i + 1)) (by decide) he
      obtain ⟨q3, q4⟩ := div_pw (e9_pos (i + 1)) (by decide) he.symm
      have hd := wd_lt (v := v) (i := i + 1)
      have hf := wd_lt (v := w) (i := i + 1)
      by_cases c : v / 1000000000 ^ (i + 1) % 1000000000 = w / 1000000000 ^ (i + 1) % 1000000000
      · have s0 := step (i + 1) hi
        rw [if_pos c, qi_m1 (by omega)] at s0
        rw [gLp_next (x' := (a, b, nI i, u)) s0]
        exact ih (by omega) (q1 c)
      · have s0 := step (i + 1) hi
        rw [if_neg c] at s0
        rw [gLp_done (show M_Wide_compare_L3 (a, b, nI (i + 1), u) = _ from s0), Option.bind_some]
        show (gc (gK a == 22) <| gc (gIn (nI (i + 1)) (gLen a)) <| gc (gK b == 22) <| gc (gIn (nI (i + 1)) (gLen b)) <| if u.2.2.1 b (gIx (nI (i + 1))) ≤ u.2.2.1 a (gIx (nI (i + 1))) then some ((1 : Int32), u) else some ((-1 : Int32), u)) = _
        rw [gc_t k1, gc_t (qi_in (by omega) (by omega)), gc_t k2, gc_t (qi_in (by omega) (by omega)), qi_ix (by omega), hv.2 (i + 1) hi, hw.2 (i + 1) hi]
        unfold cmp
        by_cases c2 : w / 1000000000 ^ (i + 1) % 1000000000 ≤ v / 1000000000 ^ (i + 1) % 1000000000
        · have := q4 (by omega)
          rw [if_pos ((qi_le (by omega) (by omega)).mpr c2), if_neg (by omega), if_neg (by omega)]
        · have := q2 (by omega)
          rw [if_neg (by rw [qi_le (by omega) (by omega)]; exact c2), if_pos (by omega)]
  have h8 := fin 7 (by decide) (by rw [Nat.div_eq_of_lt hv.1, Nat.div_eq_of_lt hw.1])
  exact h8
