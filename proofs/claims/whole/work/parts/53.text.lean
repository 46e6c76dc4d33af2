/-! THE PURE LAYER: loops by their trajectory, small numbers, the text. -/
theorem lp_count {X Y : Type} {f : X → Option (X ⊕ Y)} (S : Nat → X) (y : Y) : ∀ (d k N : Nat), k + d = N → (∀ j, k ≤ j → j < N → f (S j) = some (.inl (S (j + 1)))) → f (S N) = some (.inr y) → gLp f (S k) = some y
  | 0, k, N, h, _, he => by
    obtain rfl : k = N := by omega
    exact gLp_done he
  | d + 1, k, N, h, hs, he => by
    rw [gLp_next (hs k (Nat.le_refl _) (by omega))]
    exact lp_count S y d (k + 1) N (by omega) (fun j h1 h2 => hs j (by omega) h2) he
/-- a loop whose states are S k, S (k + 1), .. S N, and which ends at S N with y -/
theorem lp_to {X Y : Type} {f : X → Option (X ⊕ Y)} (S : Nat → X) {y : Y} {k N : Nat} (h : k ≤ N) (hs : ∀ j, k ≤ j → j < N → f (S j) = some (.inl (S (j + 1)))) (he : f (S N) = some (.inr y)) : gLp f (S k) = some y := lp_count S y (N - k) k N (by omega) hs he
theorem qi_le {a b : Nat} (ha : a < 2147483648) (hb : b < 2147483648) : (nI a ≤ nI b) ↔ a ≤ b := by
  rw [Int32.le_iff_toInt_le, nI_toInt ha, nI_toInt hb]
  omega
theorem qi_lt {a b : Nat} (ha : a < 2147483648) (hb : b < 2147483648) : (nI a < nI b) ↔ a < b := by
  rw [Int32.lt_iff_toInt_lt, nI_toInt ha, nI_toInt hb]
  omega
theorem qi_eq {a b : Nat} (ha : a < 2147483648) (hb : b < 2147483648) : (nI a = nI b) ↔ a = b := by
  constructor
  · intro h
    have h2 := congrArg Int32.toInt h
    rw [nI_toInt ha, nI_toInt hb] at h2
    omega
  · intro h
    rw [h]
theorem qi_in {a n : Nat} (ha : a < 2147483648) (h : a < n) : gIn (nI a) n = true := by
  unfold gIn
  rw [nI_toInt ha]
  exact decide_eq_true ⟨by omega, by omega⟩
theorem qi_ix {a : Nat} (ha : a < 2147483648) : gIx (nI a) = a := by
  unfold gIx
  show (nI a).toInt.toNat = a
  rw [nI_toInt ha]
  omega
theorem qi_add {a b : Nat} : nI a + nI b = nI (a + b) := nI_add ..
theorem gc_t {α : Type} {b : Bool} {k : Option α} (h : b = true) : gc b k = k := by
  unfold gc
  rw [h]
  rfl
/-- the array a as f -/
def gsR (u : gSt) (a : Nat) (f : Nat → Int32) : gSt := (u.1, u.2.1, fun b => if b = a then f else u.2.2.1 b, u.2.2.2)
theorem gsA_R {u : gSt} {a j : Nat} {v : Int32} : gsA u a j v = gsR u a (upd (u.2.2.1 a) j v) := by
  unfold gsA gsR
  congr 3
  funext b
  by_cases h : b = a
  · subst h
    rfl
  · rw [if_neg h, if_neg h]
theorem gsR_R {u : gSt} {a : Nat} {f g : Nat → Int32} : gsR (gsR u a f) a g = gsR u a g := by
  unfold gsR
  congr 3
  funext b
  by_cases h : b = a
  · rw [if_pos h, if_pos h]
  · rw [if_neg h, if_neg h]
    show (if b = a then f else u.2.2.1 b) = _
    rw [if_neg h]
theorem gsF_F {u : gSt} {a k : Nat} {v w : Int32} : gsF (gsF u a k v) a k w = gsF u a k w := by
  unfold gsF
  congr 1
  funext b j
  by_cases h : b = a
  · rw [if_pos h, if_pos h]
    by_cases h2 : j = k
    · rw [if_pos h2, if_pos h2]
    · rw [if_neg h2, if_neg h2]
      show (if b = a then (if j = k then v else u.1 b j) else u.1 b j) = _
      rw [if_pos h, if_neg h2]
  · rw [if_neg h, if_neg h]
    show (if b = a then (if j = k then v else u.1 b j) else u.1 b j) = _
    rw [if_neg h]
theorem gsF_R {u : gSt} {a k b : Nat} {v : Int32} {f : Nat → Int32} : gsF (gsR u b f) a k v = gsR (gsF u a k v) b f := rfl
theorem gsF_0 {u : gSt} {a k : Nat} {v : Int32} (h : u.1 a k = v) : gsF u a k v = u := by
  unfold gsF
  obtain ⟨u1, u2⟩ := u
  congr 1
  funext b j
  by_cases hb : b = a
  · by_cases hj : j = k
    · subst hb hj
      rw [if_pos rfl, if_pos rfl]
      exact h.symm
    · rw [if_pos hb, if_neg hj]
  · rw [if_neg hb]
theorem gsR_0 {u : gSt} {a : Nat} {f : Nat → Int32} (h : u.2.2.1 a = f) : gsR u a f = u := by
  unfold gsR
  obtain ⟨u1, u2, u3, u4⟩ := u
  congr 3
  funext b
  by_cases hb : b = a
  · subst hb
    rw [if_pos rfl]
    exact h.symm
  · rw [if_neg hb]
/-- four bytes of an int, the highest first -/
def bt (x : Int32) (k : Nat) : Int32 := ((x >>> (nI (24 - 8 * k) &&& (31 : Int32))).toInt8.toInt32).toInt8.toInt32
def tr_addFour (x : Int32) (u : gSt) (n k : Nat) : Int32 × Int32 × gSt := (x, (24 : Int32) - nI (8 * k), gsR (gsF u 2 1 (nI (n + k))) 3 (fun i => if n ≤ i ∧ i < n + k then bt x (i - n) else u.2.2.1 3 i))
theorem p_addFour {x : Int32} {u : gSt} {n : Nat} (hn : u.1 2 1 = nI n) (h : n + 4 ≤ 40000) : M_Text_addFour x u = some (gsR (gsF u 2 1 (nI (n + 4))) 3 (fun i => if n ≤ i ∧ i < n + 4 then bt x (i - n) else u.2.2.1 3 i)) := by
  unfold M_Text_addFour
  have e0 : (x, (24 : Int32), u) = tr_addFour x u n 0 := by
    show _ = (x, (24 : Int32), gsR (gsF u 2 1 (nI n)) 3 (fun i => if n ≤ i ∧ i < n + 0 then bt x (i - n) else u.2.2.1 3 i))
    rw [gsF_0 hn, gsR_0]
    funext i
    rw [if_neg (by omega)]
  have key : gLp M_Text_addFour_L3 (tr_addFour x u n 0) = some (tr_addFour x u n 4).2.2 := by
    refine lp_to (S := tr_addFour x u n) (N := 4) (Nat.zero_le _) (fun k _ hk => ?_) rfl
    have hlt : ¬ ((24 : Int32) - nI (8 * k) < 0) := by
      rcases (by omega : k = 0 ∨ k = 1 ∨ k = 2 ∨ k = 3) with rfl | rfl | rfl | rfl <;> decide
    have hm : (24 : Int32) - nI (8 * k) + (-8 : Int32) = (24 : Int32) - nI (8 * (k + 1)) := by
      rcases (by omega : k = 0 ∨ k = 1 ∨ k = 2 ∨ k = 3) with rfl | rfl | rfl | rfl <;> decide
    have hs : (24 : Int32) - nI (8 * k) = nI (24 - 8 * k) := by
      rcases (by omega : k = 0 ∨ k = 1 ∨ k = 2 ∨ k = 3) with rfl | rfl | rfl | rfl <;> decide
    show M_Text_addFour_b3 x ((24 : Int32) - nI (8 * k)) (gsR (gsF u 2 1 (nI (n + k))) 3 (fun i => if n ≤ i ∧ i < n + k then bt x (i - n) else u.2.2.1 3 i)) = _
    unfold M_Text_addFour_b3
    rw [if_neg hlt]
    show gc (gIn (nI (n + k)) 40000) (some (Sum.inl (x, (24 : Int32) - nI (8 * k) + (-8 : Int32), gsF (gsA (gsR (gsF u 2 1 (nI (n + k))) 3 (fun i => if n ≤ i ∧ i < n + k then bt x (i - n) else u.2.2.1 3 i)) 3 (gIx (nI (n + k))) (((x >>> (((24 : Int32) - nI (8 * k)) &&& (31 : Int32))).toInt8.toInt32).toInt8.toInt32)) 2 1 (nI (n + k) + nI 1)))) = _
    rw [gc_t (qi_in (by omega) (by omega)), qi_ix (by omega), hm, hs, qi_add, gsA_R, gsR_R, gsF_R, gsF_F]
    show _ = some (Sum.inl (x, _, gsR (gsF u 2 1 (nI (n + (k + 1)))) 3 (fun i => if n ≤ i ∧ i < n + (k + 1) then bt x (i - n) else u.2.2.1 3 i)))
    rw [show n + k + 1 = n + (k + 1) by omega]
    congr 4
    refine congrArg (gsR _ 3) ?_
    funext i
    show (if i = n + k then bt x k else (if n ≤ i ∧ i < n + k then bt x (i - n) else u.2.2.1 3 i)) = _
    by_cases h1 : i = n + k
    · subst h1
      rw [if_pos rfl, if_pos (by omega), show n + k - n = k by omega]
    · rw [if_neg h1]
      by_cases h2 : n ≤ i ∧ i < n + k
      · rw [if_pos h2, if_pos (by omega)]
      · rw [if_neg h2, if_neg (by omega)]
  rw [e0, key]
  rfl
/-- m bytes W laid behind the n of the text -/
def tx_st (W : Nat → Int32) (u : gSt) (n m : Nat) : gSt := gsR (gsF u 2 1 (nI (n + m))) 3 (fun i => if n ≤ i ∧ i < n + m then W (i - n) else u.2.2.1 3 i)
theorem p_four {W : Nat → Int32} {x : Int32} {u : gSt} {n m : Nat} (hW : ∀ r, r < 4 → W (m + r) = bt x r) (h : n + m + 4 ≤ 40000) : M_Text_addFour x (tx_st W u n m) = some (tx_st W u n (m + 4)) := by
  rw [p_addFour (n := n + m) rfl h]
  unfold tx_st
  rw [gsF_R, gsR_R, gsF_F, show n + m + 4 = n + (m + 4) by omega]
  refine congrArg (fun f => some (gsR _ 3 f)) ?_
  funext i
  show (if n + m ≤ i ∧ i < n + (m + 4) then bt x (i - (n + m)) else (if n ≤ i ∧ i < n + m then W (i - n) else u.2.2.1 3 i)) = _
  by_cases h1 : n + m ≤ i ∧ i < n + (m + 4)
  · rw [if_pos h1, if_pos (by omega), ← hW (i - (n + m)) (by omega), show m + (i - (n + m)) = i - n by omega]
  · rw [if_neg h1]
    by_cases h2 : n ≤ i ∧ i < n + m
    · rw [if_pos h2, if_pos (by omega)]
    · rw [if_neg h2, if_neg (by omega)]
/-- the twenty bytes of five ints -/
def bw (x1 x2 x3 x4 x5 : Int32) (k : Nat) : Int32 := bt (if k < 4 then x1 else if k < 8 then x2 else if k < 12 then x3 else if k < 16 then x4 else x5) (k % 4)
theorem tx_0 {W : Nat → Int32} {u : gSt} {n : Nat} (hn : u.1 2 1 = nI n) : tx_st W u n 0 = u := by
  unfold tx_st
  rw [Nat.add_zero, gsF_0 hn, gsR_0]
  funext i
  rw [if_neg (by omega)]
theorem p_Desk_feed {x1 x2 x3 x4 x5 : Int32} {u : gSt} {n : Nat} (hn : u.1 2 1 = nI n) (h : n + 20 ≤ 40000) : M_Desk_feed x1 x2 x3 x4 x5 u = some (nI (n + 20), tx_st (bw x1 x2 x3 x4 x5) u n 20) := by
  unfold M_Desk_feed
  have hle : u.1 2 1 + (20 : Int32) ≤ (40000 : Int32) := by
    rw [hn, show (20 : Int32) = nI 20 from rfl, show (40000 : Int32) = nI 40000 from rfl, qi_add]
    exact (qi_le (by omega) (by omega)).mpr h
  rw [if_pos hle]
  have e0 := tx_0 (W := bw x1 x2 x3 x4 x5) hn
  have hw : ∀ (j : Nat) (x : Int32), (∀ r, r < 4 → (if 4 * j + r < 4 then x1 else if 4 * j + r < 8 then x2 else if 4 * j + r < 12 then x3 else if 4 * j + r < 16 then x4 else x5) = x) → ∀ r, r < 4 → bw x1 x2 x3 x4 x5 (4 * j + r) = bt x r := fun j x hx r hr => by
    unfold bw
    rw [hx r hr, show (4 * j + r) % 4 = r by omega]
  have e1 := p_four (W := bw x1 x2 x3 x4 x5) (x := x1) (u := u) (n := n) (m := 0) (hw 0 x1 (fun r hr => by rw [if_pos (by omega)])) (by omega)
  have e2 := p_four (W := bw x1 x2 x3 x4 x5) (x := x2) (u := u) (n := n) (m := 4) (hw 1 x2 (fun r hr => by rw [if_neg (by omega), if_pos (by omega)])) (by omega)
  have e3 := p_four (W := bw x1 x2 x3 x4 x5) (x := x3) (u := u) (n := n) (m := 8) (hw 2 x3 (fun r hr => by rw [if_neg (by omega), if_neg (by omega), if_pos (by omega)])) (by omega)
  have e4 := p_four (W := bw x1 x2 x3 x4 x5) (x := x4) (u := u) (n := n) (m := 12) (hw 3 x4 (fun r hr => by rw [if_neg (by omega), if_neg (by omega), if_neg (by omega), if_pos (by omega)])) (by omega)
  have e5 := p_four (W := bw x1 x2 x3 x4 x5) (x := x5) (u := u) (n := n) (m := 16) (hw 4 x5 (fun r hr => by rw [if_neg (by omega), if_neg (by omega), if_neg (by omega), if_neg (by omega)])) (by omega)
  rw [e0] at e1
  rw [e1, Option.bind_some, e2, Option.bind_some, e3, Option.bind_some, e4, Option.bind_some, e5, Option.bind_some]
  rfl
theorem p_fails0 {k : Int32} {u : gSt} : M_Model_fails 0 k u = some (0, gsF u 42 41 0) := by
  unfold M_Model_fails M_Model_fails_b10
  rw [if_pos rfl]
  rfl
theorem p_fails1 {k : Int32} {u : gSt} : M_Model_fails 1 k u = some (1, gsF u 42 41 k) := by
  unfold M_Model_fails M_Model_fails_b10
  rw [if_neg (by decide)]
  rfl
def tm_feed (x1 x2 x3 x4 x5 : Int32) (u : gSt) (n k : Nat) : Int32 × Int32 × Int32 × Int32 × Int32 × Int32 × gSt := (x1, x2, x3, x4, x5, nI k, gsR u 43 (fun i => if n ≤ i ∧ i < n + k then bw x1 x2 x3 x4 x5 (i - n) else u.2.2.1 43 i))
theorem p_shift : ∀ k, k < 20 → ((24 : Int32) - ((8 : Int32) * (nI k - nI k / (4 : Int32) * (4 : Int32)))) &&& (31 : Int32) = nI (24 - 8 * (k % 4)) &&& (31 : Int32) := by decide +kernel
theorem p_Model_feedL {x1 x2 x3 x4 x5 : Int32} {u : gSt} {n : Nat} (hn : u.1 42 1 = nI n) (h : n + 20 ≤ 40000) : gLp M_Model_feed_L30 (x1, x2, x3, x4, x5, (0 : Int32), u) = some (gsR u 43 (fun i => if n ≤ i ∧ i < n + 20 then bw x1 x2 x3 x4 x5 (i - n) else u.2.2.1 43 i)) := by
  have e0 : (x1, x2, x3, x4, x5, (0 : Int32), u) = tm_feed x1 x2 x3 x4 x5 u n 0 := by
    unfold tm_feed
    rw [gsR_0]
    · rfl
    · funext i
      rw [if_neg (by omega)]
  rw [e0]
  refine lp_to (S := tm_feed x1 x2 x3 x4 x5 u n) (N := 20) (Nat.zero_le _) (fun k _ hk => ?_) rfl
  have hb : ∀ x : Int32, (if k < 4 then x1 else if k < 8 then x2 else if k < 12 then x3 else if k < 16 then x4 else x5) = x → M_Model_feed_b83 x1 x2 x3 x4 x5 (nI k) x (tm_feed x1 x2 x3 x4 x5 u n k).2.2.2.2.2.2 = some (.inl (tm_feed x1 x2 x3 x4 x5 u n (k + 1))) := fun x hx => by
    unfold M_Model_feed_b83
    have e1 : (tm_feed x1 x2 x3 x4 x5 u n k).2.2.2.2.2.2.1 42 1 = nI n := hn
    rw [e1, qi_add, gc_t (qi_in (by omega) (by show n + k < 40000; omega)), qi_ix (by omega), p_shift k hk, gsA_R]
    show some (Sum.inl (x1, x2, x3, x4, x5, nI k + nI 1, _)) = some (Sum.inl (x1, x2, x3, x4, x5, nI (k + 1), _))
    rw [qi_add]
    unfold tm_feed
    rw [gsR_R]
    refine congrArg (fun f => some (Sum.inl (x1, x2, x3, x4, x5, nI (k + 1), gsR u 43 f))) ?_
    funext i
    show (if i = n + k then bt x (k % 4) else (if n ≤ i ∧ i < n + k then bw x1 x2 x3 x4 x5 (i - n) else u.2.2.1 43 i)) = _
    by_cases h1 : i = n + k
    · subst h1
      rw [if_pos rfl, if_pos (by omega), show n + k - n = k by omega]
      unfold bw
      rw [hx]
    · rw [if_neg h1]
      by_cases h2 : n ≤ i ∧ i < n + k
      · rw [if_pos h2, if_pos (by omega)]
      · rw [if_neg h2, if_neg (by omega)]
  show M_Model_feed_b30 x1 x2 x3 x4 x5 (nI k) (tm_feed x1 x2 x3 x4 x5 u n k).2.2.2.2.2.2 = _
  unfold M_Model_feed_b30
  rw [show (20 : Int32) = nI 20 from rfl, show (4 : Int32) = nI 4 from rfl, show (8 : Int32) = nI 8 from rfl, show (12 : Int32) = nI 12 from rfl, show (16 : Int32) = nI 16 from rfl, if_neg (by rw [qi_le (by omega) (by omega)]; omega)]
  by_cases h4 : 4 ≤ k
  · rw [if_pos ((qi_le (by omega) (by omega)).mpr h4)]
    by_cases h8 : 8 ≤ k
    · rw [if_pos ((qi_le (by omega) (by omega)).mpr h8)]
      by_cases h12 : 12 ≤ k
      · rw [if_pos ((qi_le (by omega) (by omega)).mpr h12)]
        by_cases h16 : 16 ≤ k
        · rw [if_pos ((qi_le (by omega) (by omega)).mpr h16)]
          exact hb x5 (by rw [if_neg (by omega), if_neg (by omega), if_neg (by omega), if_neg (by omega)])
        · rw [if_neg (by rw [qi_le (by omega) (by omega)]; exact h16)]
          exact hb x4 (by rw [if_neg (by omega), if_neg (by omega), if_neg (by omega), if_pos (by omega)])
      · rw [if_neg (by rw [qi_le (by omega) (by omega)]; exact h12)]
        exact hb x3 (by rw [if_neg (by omega), if_neg (by omega), if_pos (by omega)])
    · rw [if_neg (by rw [qi_le (by omega) (by omega)]; exact h8)]
      exact hb x2 (by rw [if_neg (by omega), if_pos (by omega)])
  · rw [if_neg (by rw [qi_le (by omega) (by omega)]; exact h4)]
    exact hb x1 (by rw [if_pos (by omega)])
