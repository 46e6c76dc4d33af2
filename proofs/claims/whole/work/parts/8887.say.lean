/-! The model's say. -/
def FPr (u w : gSt) : Prop := (∀ a j, a ≠ 42 ∨ (j ≠ 28 ∧ j ≠ 39) → w.1 a j = u.1 a j) ∧ w.2.1 = u.2.1 ∧ (∀ a, a ≠ 55 → a ≠ 56 → a ≠ 64 → w.2.2.1 a = u.2.2.1 a) ∧ w.2.2.2 = u.2.2.2 ∧ ∀ y v, y < 8 → y ≠ 1 → Rs u y v → Rs w y v
theorem FPr_0 {u : gSt} : FPr u u := ⟨fun _ _ _ => rfl, rfl, fun _ _ _ _ => rfl, rfl, fun _ _ _ _ h => h⟩
theorem FPr_t {u v w : gSt} (h : FPr u v) (k : FPr v w) : FPr u w := ⟨fun a j e => by rw [k.1 a j e, h.1 a j e], by rw [k.2.1, h.2.1], fun a e f g => by rw [k.2.2.1 a e f g, h.2.2.1 a e f g], by rw [k.2.2.2.1, h.2.2.2.1], fun y v e f g => k.2.2.2.2 y v e f (h.2.2.2.2 y v e f g)⟩
theorem FPr_X {u w : gSt} (h : FX (fun y => y = 1) u w) : FPr u w := ⟨fun a j e => h.1 a j (by omega), h.2.1, fun a e f _ => h.2.2.1 a e f, h.2.2.2.1, h.2.2.2.2⟩
theorem FPr_R {u : gSt} {f : Nat → Int32} : FPr u (gsR u 64 f) := ⟨fun _ _ _ => rfl, rfl, fun a _ _ e => gsR_b e, rfl, fun y v _ _ h => Rs_R (by decide) (by decide) h⟩
theorem FPr_F {u : gSt} {x : Int32} : FPr u (gsF u 42 39 x) := ⟨fun a j e => gF_o (by omega), rfl, fun _ _ _ _ => rfl, rfl, fun y v _ _ h => h⟩
def wq (V pt r : Nat) : Nat := if pt = 0 ∨ r < pt then 48 + V / 10 ^ r % 10 else if r = pt then 46 else 48 + V / 10 ^ (r - 1) % 10
def dot (pt k : Nat) : Nat := if 0 < pt ∧ pt < k then 1 else 0
/-- what say has written: from m0 on the first n of wq -/
def tW (u v : gSt) (V pt m0 n : Nat) : Prop := v.1 42 39 = nI (m0 + n) ∧ (∀ i, i < m0 → v.2.2.1 64 i = u.2.2.1 64 i) ∧ ∀ r, r < n → v.2.2.1 64 (m0 + r) = nI (wq V pt r)
theorem r_put2 {u v : gSt} {V pt m0 n x c : Nat} (ht : tW u v V pt m0 n) (hm : m0 + n < 400) (hc : wq V pt n = c) (hx : Rs v 1 x) : ∃ w, M_Model_put (nI c) v = some w ∧ tW u w V pt m0 (n + 1) ∧ FPr v w ∧ Rs w 1 x := by
  refine ⟨gsF (gsR v 64 (upd (v.2.2.1 64) (m0 + n) (nI c))) 42 39 (nI (m0 + (n + 1))), ?_, ⟨gF_a, fun i hi => ?_, fun r hr => ?_⟩, FPr_t FPr_R FPr_F, Rs_R (by decide) (by decide) hx⟩
  · unfold M_Model_put
    rw [ht.1, gc_t (qi_in (n := gLen 64) (by omega) (show m0 + n < 400 from hm)), qi_ix (by omega), gsA_R, Option.bind_some]
    show some (gsF (gsR v 64 (upd (v.2.2.1 64) (m0 + n) (nI c))) 42 39 (v.1 42 39 + nI 1)) = _
    rw [ht.1, qi_add, Nat.add_assoc]
  · show (gsR v 64 (upd (v.2.2.1 64) (m0 + n) (nI c))).2.2.1 64 i = _
    rw [gsR_a, pk_un (by omega)]
    exact ht.2.1 i hi
  · show (gsR v 64 (upd (v.2.2.1 64) (m0 + n) (nI c))).2.2.1 64 (m0 + r) = _
    rw [gsR_a]
    by_cases e : r = n
    · rw [e, pk_us, hc]
    · rw [pk_un (by omega)]
      exact ht.2.2 r (by omega)
theorem Rd_zero {D N : Nat → Int32} {x v : Nat} (h : Rd D N x v) : ∃ m, N x = nI m ∧ m ≤ 48 ∧ (m = 0 ↔ v = 0) := by
  obtain ⟨m, ⟨m1, m2, m3, m4⟩, m5⟩ := h
  refine ⟨m, m2, m1, ?_, ?_⟩
  · intro e
    rw [e] at m3
    omega
  · intro e
    rcases m5 with h | h
    · exact h
    · have := p5 (m - 1)
      omega
theorem r_say1 {u v : gSt} {V l pt m0 k : Nat} (hV : Rs v 1 (V / 10 ^ k)) (ht : tW u v V pt m0 (k + dot pt k)) (hk : k < l ∨ 10 ^ k ≤ V) (hm : m0 + k < 300) (hl : l < 1000) (hpt : pt < 1000) : ∃ w, M_Model_say_b8 (nI l) (nI pt) (nI m0) (nI k) v = some (.inl (nI l, nI pt, nI m0, nI (k + 1), w)) ∧ tW u w V pt m0 (k + 1 + dot pt (k + 1)) ∧ FPr v w ∧ Rs w 1 (V / 10 ^ (k + 1)) := by
  have hd1 : dot pt k ≤ 1 := by
    unfold dot
    split <;> omega
  have h8 : M_Model_say_b8 (nI l) (nI pt) (nI m0) (nI k) v = M_Model_say_b23 (nI l) (nI pt) (nI m0) (nI k) v := by
    obtain ⟨m, e1, e2, e3⟩ := Rd_zero hV
    unfold M_Model_say_b8
    show (gc (gIn (1 : Int32) (gLen 56)) <| if (0 : Int32) < v.2.2.1 56 1 then _ else _) = _
    rw [gc_t (by decide), e1]
    by_cases c : m = 0
    · have h0 := e3.mp c
      have hkl : k < l := by
        rcases hk with h | h
        · exact h
        · have := Nat.div_pos h (Nat.pow_pos (by decide))
          omega
      rw [if_neg (by rw [show (0 : Int32) = nI 0 from rfl, qi_lt (by omega) (by omega)]; omega), if_neg (by rw [qi_le (by omega) (by omega)]; omega)]
    · rw [if_pos (by rw [show (0 : Int32) = nI 0 from rfl, qi_lt (by omega) (by omega)]; omega)]
  -- the digit, from a state where what stands before it is written
  have dig : ∀ (x : gSt), Rs x 1 (V / 10 ^ k) → tW u x V pt m0 (k + dot pt (k + 1)) → ∃ w, M_Model_say_b39 (nI l) (nI pt) (nI m0) (nI k) x = some (.inl (nI l, nI pt, nI m0, nI (k + 1), w)) ∧ tW u w V pt m0 (k + 1 + dot pt (k + 1)) ∧ FPr x w ∧ Rs w 1 (V / 10 ^ (k + 1)) := fun x hx tx9 => by
    have hd2 : dot pt (k + 1) ≤ 1 := by
      unfold dot
      split <;> omega
    obtain ⟨s1, e1, f1, r1, q1⟩ := r_lower (u := x) (x := 1) (c := 10) (by decide) hx (by decide) (by decide)
    rw [Nat.div_div_eq_div_mul, show 10 ^ k * 10 = 10 ^ (k + 1) from rfl] at r1
    have t1 : tW u s1 V pt m0 (k + dot pt (k + 1)) := ⟨by rw [f1.1 42 39 (by omega)]; exact tx9.1, fun i hi => by rw [f1.2.2.1 64 (by decide) (by decide)]; exact tx9.2.1 i hi, fun r hr => by rw [f1.2.2.1 64 (by decide) (by decide)]; exact tx9.2.2 r hr⟩
    have hw : wq V pt (k + dot pt (k + 1)) = 48 + V / 10 ^ k % 10 := by
      unfold wq dot
      by_cases c : 0 < pt ∧ pt < k + 1
      · rw [if_pos c, if_neg (by omega), if_neg (by omega), show k + 1 - 1 = k by omega]
      · rw [if_neg c, if_pos (by omega), Nat.add_zero]
    obtain ⟨s2, e2, t2, f2, r2⟩ := r_put2 t1 (by omega) hw r1
    rw [show k + dot pt (k + 1) + 1 = k + 1 + dot pt (k + 1) by omega] at t2
    refine ⟨s2, ?_, t2, FPr_t (FPr_X f1) f2, r2⟩
    unfold M_Model_say_b39
    show ((M_Model_lower (nI 1) (nI 10) x).bind _) = _
    rw [e1, Option.bind_some, q1]
    show ((M_Model_put (nI 48 + nI (V / 10 ^ k % 10)) s1).bind _) = _
    rw [qi_add, e2, Option.bind_some]
    show some (Sum.inl (nI l, nI pt, nI m0, nI k + nI 1, s2)) = _
    rw [qi_add]
  rw [h8]
  unfold M_Model_say_b23
  by_cases c1 : k = pt
  · subst c1
    rw [if_pos rfl]
    by_cases c2 : k = 0
    · rw [if_pos ((qi_le0 (by omega)).mpr c2)]
      have ed : dot k (k + 1) = dot k k := by
        unfold dot
        rw [if_neg (by omega), if_neg (by omega)]
      obtain ⟨w, r⟩ := dig v hV (by rw [ed]; exact ht)
      exact ⟨w, r⟩
    · rw [if_neg (by rw [qi_le0 (by omega)]; exact c2)]
      have ed : dot k k = 0 := if_neg (by omega)
      have ed1 : dot k (k + 1) = 1 := if_pos (by omega)
      rw [ed, Nat.add_zero] at ht
      have hw : wq V k k = 46 := by
        unfold wq
        rw [if_neg (by omega), if_pos rfl]
      obtain ⟨s1, e1, t1, f1, r1⟩ := r_put2 ht (by omega) hw hV
      obtain ⟨w, ew, tw, fw, rw'⟩ := dig s1 r1 (by rw [ed1]; exact t1)
      refine ⟨w, ?_, tw, FPr_t f1 fw, rw'⟩
      show ((M_Model_put (nI 46) v).bind _) = _
      rw [e1, Option.bind_some, ew]
  · rw [if_neg (by rw [qi_eq (by omega) (by omega)]; exact c1)]
    have ed : dot pt (k + 1) = dot pt k := by
      unfold dot
      by_cases c : 0 < pt ∧ pt < k
      · rw [if_pos c, if_pos (by omega)]
      · rw [if_neg c, if_neg (by omega)]
    obtain ⟨w, r⟩ := dig v hV (by rw [ed]; exact ht)
    exact ⟨w, r⟩
def rv (g : Nat → Int32) (m0 n k : Nat) : Nat → Int32 := fun i => if m0 ≤ i ∧ i < m0 + n ∧ (i - m0 < k ∨ n - k ≤ i - m0) then g (m0 + (n - 1 - (i - m0))) else g i
theorem r_rev {v : gSt} {m0 n : Nat} (hn : 1 ≤ n) (hm : m0 + n ≤ 400) (h39 : v.1 42 39 = nI (m0 + n)) : ∃ w, gLp M_Model_say_L66 (nI m0, nI 0, v) = some w ∧ FPr v w ∧ (∀ x, Rs v 1 x → Rs w 1 x) ∧ w.1 42 39 = nI (m0 + n) ∧ (∀ i, i < m0 → w.2.2.1 64 i = v.2.2.1 64 i) ∧ ∀ j, j < n → w.2.2.1 64 (m0 + j) = v.2.2.1 64 (m0 + (n - 1 - j)) := by
  have key : gLp M_Model_say_L66 (nI m0, nI 0, gsR v 64 (rv (v.2.2.1 64) m0 n 0)) = some (gsR v 64 (rv (v.2.2.1 64) m0 n (n / 2))) := by
    refine lp_to (S := fun k => (nI m0, nI k, gsR v 64 (rv (v.2.2.1 64) m0 n k))) (k := 0) (N := n / 2) (Nat.zero_le _) (fun k _ hk => ?_) ?_
    · show M_Model_say_b66 (nI m0) (nI k) (gsR v 64 (rv (v.2.2.1 64) m0 n k)) = _
      unfold M_Model_say_b66
      show (if (v.1 42 39 - nI m0) - (1 : Int32) ≤ (2 : Int32) * nI k then _ else (gc (gIn (nI m0 + nI k) (gLen 64)) <| gc (gIn ((v.1 42 39 - (1 : Int32)) - nI k) (gLen 64)) <| gc (gIn (nI m0 + nI k) (gLen 64)) <| gc (gIn ((v.1 42 39 - (1 : Int32)) - nI k) (gLen 64)) <| some (Sum.inl (nI m0, nI k + nI 1, gsA (gsA (gsR v 64 (rv (v.2.2.1 64) m0 n k)) 64 (gIx (nI m0 + nI k)) ((gsR v 64 (rv (v.2.2.1 64) m0 n k)).2.2.1 64 (gIx ((v.1 42 39 - (1 : Int32)) - nI k)))) 64 (gIx ((v.1 42 39 - (1 : Int32)) - nI k)) ((gsR v 64 (rv (v.2.2.1 64) m0 n k)).2.2.1 64 (gIx (nI m0 + nI k))))))) = some (Sum.inl (nI m0, nI (k + 1), gsR v 64 (rv (v.2.2.1 64) m0 n (k + 1))))
      rw [h39, show (1 : Int32) = nI 1 from rfl, show (2 : Int32) = nI 2 from rfl, pk_sub (by omega), pk_sub (by omega), pk_sub (by omega), pk_sub (by omega), qi_mul, if_neg (by rw [qi_le (by omega) (by omega)]; omega), qi_add, gc_t (qi_in (n := gLen 64) (by omega) (show m0 + k < 400 by omega)), gc_t (qi_in (n := gLen 64) (by omega) (show m0 + n - 1 - k < 400 by omega)), gc_t (qi_in (n := gLen 64) (by omega) (show m0 + k < 400 by omega)), gc_t (qi_in (n := gLen 64) (by omega) (show m0 + n - 1 - k < 400 by omega)), qi_ix (by omega), qi_ix (by omega), qi_add, gsR_a, gsA_R (u := gsR v 64 _), gsR_a, gsR_R, gsA_R, gsR_a, gsR_R]
      refine congrArg (fun z => some (Sum.inl (nI m0, nI (k + 1), z))) (gsR_e (fun i => ?_))
      have ehi : rv (v.2.2.1 64) m0 n k (m0 + n - 1 - k) = v.2.2.1 64 (m0 + n - 1 - k) := by
        unfold rv
        rw [if_neg (by omega)]
      have elo : rv (v.2.2.1 64) m0 n k (m0 + k) = v.2.2.1 64 (m0 + k) := by
        unfold rv
        rw [if_neg (by omega)]
      rw [ehi, elo]
      unfold rv
      by_cases c1 : i = m0 + n - 1 - k
      · rw [c1, pk_us, if_pos (by omega), show m0 + (n - 1 - (m0 + n - 1 - k - m0)) = m0 + k by omega]
      · rw [pk_un c1]
        by_cases c2 : i = m0 + k
        · rw [c2, pk_us, if_pos (by omega), show m0 + (n - 1 - (m0 + k - m0)) = m0 + n - 1 - k by omega]
        · rw [pk_un c2]
          by_cases c3 : m0 ≤ i ∧ i < m0 + n ∧ (i - m0 < k ∨ n - k ≤ i - m0)
          · rw [if_pos c3, if_pos (by omega)]
          · rw [if_neg c3, if_neg (by omega)]
    · show M_Model_say_b66 (nI m0) (nI (n / 2)) (gsR v 64 (rv (v.2.2.1 64) m0 n (n / 2))) = _
      unfold M_Model_say_b66
      show (if (v.1 42 39 - nI m0) - (1 : Int32) ≤ (2 : Int32) * nI (n / 2) then some (Sum.inr (gsR v 64 (rv (v.2.2.1 64) m0 n (n / 2)))) else _) = _
      rw [h39, show (1 : Int32) = nI 1 from rfl, show (2 : Int32) = nI 2 from rfl, pk_sub (by omega), pk_sub (by omega), qi_mul, if_pos ((qi_le (by omega) (by omega)).mpr (by omega))]
  have r0 : gsR v 64 (rv (v.2.2.1 64) m0 n 0) = v := by
    refine gsR_0 (funext fun i => ?_)
    unfold rv
    rw [if_neg (by omega)]
  rw [r0] at key
  refine ⟨_, key, FPr_R, fun x hx => Rs_R (by decide) (by decide) hx, h39, fun i hi => ?_, fun j hj => ?_⟩
  · rw [gsR_a]
    unfold rv
    rw [if_neg (by omega)]
  · rw [gsR_a]
    unfold rv
    by_cases c : m0 ≤ m0 + j ∧ m0 + j < m0 + n ∧ (m0 + j - m0 < n / 2 ∨ n - n / 2 ≤ m0 + j - m0)
    · rw [if_pos c, show m0 + (n - 1 - (m0 + j - m0)) = m0 + (n - 1 - j) by omega]
    · rw [if_neg c, show n - 1 - j = j by omega]
theorem r_say {v : gSt} {V l pt m0 c : Nat} (hV : Rs v 1 V) (h1 : V < 10 ^ c) (hl : l ≤ c) (hc1 : 1 ≤ c) (hk : ∀ k, k < c → k < l ∨ 10 ^ k ≤ V) (hm : m0 + c < 300) (hpt : pt < 1000) (h39 : v.1 42 39 = nI m0) : ∃ w, M_Model_say (nI l) (nI pt) v = some w ∧ FPr v w ∧ w.1 42 39 = nI (m0 + (c + dot pt c)) ∧ (∀ i, i < m0 → w.2.2.1 64 i = v.2.2.1 64 i) ∧ ∀ j, j < c + dot pt c → w.2.2.1 64 (m0 + j) = nI (wq V pt (c + dot pt c - 1 - j)) := by
  have hd1 : dot pt c ≤ 1 := by
    unfold dot
    split <;> omega
  obtain ⟨y, ey, y1, ty, fy⟩ := lp_rel (f := M_Model_say_L8) (Po := fun y : Int32 × gSt => y.1 = nI m0 ∧ tW v y.2 V pt m0 (c + dot pt c) ∧ FPr v y.2) (fun k (x : Int32 × Int32 × Int32 × Int32 × gSt) => x.1 = nI l ∧ x.2.1 = nI pt ∧ x.2.2.1 = nI m0 ∧ x.2.2.2.1 = nI k ∧ tW v x.2.2.2.2 V pt m0 (k + dot pt k) ∧ FPr v x.2.2.2.2 ∧ Rs x.2.2.2.2 1 (V / 10 ^ k)) c 0 c (by omega) (fun k x _ hk2 hx => by
    obtain ⟨x1, x2, x3, x4, q⟩ := x
    obtain ⟨rfl, rfl, rfl, rfl, tq, fq, rq'⟩ := hx
    obtain ⟨w, ew, tw, fw, rw'⟩ := r_say1 rq' tq (hk k hk2) (by omega) (by omega) hpt
    exact ⟨(_, _, _, _, w), ew, rfl, rfl, rfl, rfl, tw, FPr_t fq fw, rw'⟩) (fun x hx => by
    obtain ⟨x1, x2, x3, x4, q⟩ := x
    obtain ⟨rfl, rfl, rfl, rfl, tq, fq, rq'⟩ := hx
    refine ⟨(nI m0, q), ?_, rfl, tq, fq⟩
    have rq2 : Rs q 1 (V / 10 ^ c) := rq'
    obtain ⟨m, e1, e2, e3⟩ := Rd_zero rq2
    have hm0 : m = 0 := e3.mpr (Nat.div_eq_of_lt h1)
    show M_Model_say_b8 (nI l) (nI pt) (nI m0) (nI c) q = _
    unfold M_Model_say_b8
    show (gc (gIn (1 : Int32) (gLen 56)) <| if (0 : Int32) < q.2.2.1 56 1 then _ else _) = _
    rw [gc_t (by decide), e1, hm0, if_neg (by decide), if_pos ((qi_le (by omega) (by omega)).mpr hl)]) (nI l, nI pt, nI m0, nI 0, v) ⟨rfl, rfl, rfl, rfl, by
      rw [show dot pt 0 = 0 from if_neg (by omega)]
      exact ⟨h39, fun _ _ => rfl, fun r hr => absurd hr (Nat.not_lt_zero _)⟩, FPr_0, by rw [Nat.pow_zero, Nat.div_one]; exact hV⟩
  obtain ⟨y0, q⟩ := y
  have y1' : y0 = nI m0 := y1
  subst y1'
  have tq : tW v q V pt m0 (c + dot pt c) := ty
  obtain ⟨w, ew, fw, -, w39, wlo, whi⟩ := r_rev (v := q) (m0 := m0) (n := c + dot pt c) (by omega) (by omega) tq.1
  refine ⟨w, ?_, FPr_t fy fw, w39, fun i hi => by rw [wlo i hi]; exact tq.2.1 i hi, fun j hj => by rw [whi j hj]; exact tq.2.2 _ (by omega)⟩
  unfold M_Model_say
  rw [h39]
  show ((gLp M_Model_say_L8 (nI l, nI pt, nI m0, nI 0, v)).bind _) = _
  rw [ey, Option.bind_some]
  show ((gLp M_Model_say_L66 (nI m0, nI 0, q)).bind fun y66 => some y66) = _
  rw [ew]
  rfl
