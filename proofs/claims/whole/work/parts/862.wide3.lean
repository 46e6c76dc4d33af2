/-! Wide numbers: add, subtract, choices. -/
theorem p_wadd {u : gSt} {a b v w : Nat} (hne : a ≠ b) (ha : gK a = 22) (hb : gK b = 22) (la : gLen a = 8) (lb9 : gLen b = 8) (hv : Wv u a v) (hw : Wv u b w) : M_Wide_add a b u = some (wr u a (v + w)) := by
  have k1 : (gK a == 22) = true := by rw [ha]; rfl
  have k2 : (gK b == 22) = true := by rw [hb]; rfl
  have hB : (1000000000 : Int64) = lN 1000000000 := rfl
  have e0 : (a, b, (0 : Int64), (0 : Int32), u) = (fun i => (a, b, lN ((v % 1000000000 ^ i + w % 1000000000 ^ i * 1) / 1000000000 ^ i), nI i, gsR u a (fun k => if k < i then nI ((v + w) / 1000000000 ^ k % 1000000000) else u.2.2.1 a k))) 0 := by
    show _ = (a, b, lN ((v % 1000000000 ^ 0 + w % 1000000000 ^ 0 * 1) / 1000000000 ^ 0), nI 0, gsR u a (fun k => if k < 0 then nI ((v + w) / 1000000000 ^ k % 1000000000) else u.2.2.1 a k))
    rw [gsR_0, Nat.pow_zero, Nat.mod_one, Nat.mod_one]
    · rfl
    · funext k
      rw [if_neg (by omega)]
  unfold M_Wide_add
  rw [e0, lp_to (S := fun i => (a, b, lN ((v % 1000000000 ^ i + w % 1000000000 ^ i * 1) / 1000000000 ^ i), nI i, gsR u a (fun k => if k < i then nI ((v + w) / 1000000000 ^ k % 1000000000) else u.2.2.1 a k))) (y := gsR u a (fun k => if k < 8 then nI ((v + w) / 1000000000 ^ k % 1000000000) else u.2.2.1 a k)) (k := 0) (N := 8) (Nat.zero_le _) (fun i _ hi => ?_) rfl]
  · rfl
  · show M_Wide_add_b5 a b (lN ((v % 1000000000 ^ i + w % 1000000000 ^ i * 1) / 1000000000 ^ i)) (nI i) (gsR u a (fun k => if k < i then nI ((v + w) / 1000000000 ^ k % 1000000000) else u.2.2.1 a k)) = some (Sum.inl (a, b, lN ((v % 1000000000 ^ (i + 1) + w % 1000000000 ^ (i + 1) * 1) / 1000000000 ^ (i + 1)), nI (i + 1), gsR u a (fun k => if k < i + 1 then nI ((v + w) / 1000000000 ^ k % 1000000000) else u.2.2.1 a k)))
    obtain ⟨m1, m2, m3⟩ := astep (B := 1000000000) (P := 1000000000 ^ i) (v := v) (w := w) (c := 1) (e9_pos i)
    have hcar : (v % 1000000000 ^ i + w % 1000000000 ^ i * 1) / 1000000000 ^ i < 2 := by
      rw [Nat.div_lt_iff_lt_mul (e9_pos i)]
      have h1 : v % 1000000000 ^ i < 1000000000 ^ i := Nat.mod_lt _ (e9_pos i)
      have h2 : w % 1000000000 ^ i < 1000000000 ^ i := Nat.mod_lt _ (e9_pos i)
      omega
    have hd := wd_lt (v := v) (i := i)
    have he := wd_lt (v := w) (i := i)
    have w1 : (gsR u a (fun k => if k < i then nI ((v + w) / 1000000000 ^ k % 1000000000) else u.2.2.1 a k)).2.2.1 a i = nI (v / 1000000000 ^ i % 1000000000) := by
      rw [gsR_a]
      show (if i < i then _ else u.2.2.1 a i) = _
      rw [if_neg (by omega), hv.2 i hi]
    have w2 : (gsR u a (fun k => if k < i then nI ((v + w) / 1000000000 ^ k % 1000000000) else u.2.2.1 a k)).2.2.1 b i = nI (w / 1000000000 ^ i % 1000000000) := by
      rw [gsR_b (Ne.symm hne), hw.2 i hi]
    have hb9 : (v % (1000000000 ^ i * 1000000000) + w % (1000000000 ^ i * 1000000000) * 1) / 1000000000 ^ i < 2 ^ 63 := by
      rw [← m1]
      omega
    have m1' : (v % 1000000000 ^ i + w % 1000000000 ^ i * 1) / 1000000000 ^ i + (v / 1000000000 ^ i % 1000000000 + w / 1000000000 ^ i % 1000000000) = (v % (1000000000 ^ i * 1000000000) + w % (1000000000 ^ i * 1000000000) * 1) / 1000000000 ^ i := by
      rw [← m1]
      omega
    unfold M_Wide_add_b5
    rw [if_neg (show ¬ (8 : Int32) ≤ nI i by rw [show (8 : Int32) = nI 8 from rfl, qi_le (by omega) (by omega)]; omega), gc_t k1, gc_t (qi_in (by omega) (by omega)), gc_t k2, gc_t (qi_in (by omega) (by omega)), gc_t k1, gc_t (qi_in (by omega) (by omega)), qi_ix (by omega), w1, w2, nI_l (show v / 1000000000 ^ i % 1000000000 < 2 ^ 31 by omega), nI_l (show w / 1000000000 ^ i % 1000000000 < 2 ^ 31 by omega), lN_add, lN_add, m1', hB, pk_lRem hb9 (by decide) (by decide), pk_lDiv hb9 (by decide) (by decide), lN_i, m2, m3, Option.bind_some, gsA_R, gsR_R, gsR_a]
    show some (Sum.inl (a, b, _, nI i + nI 1, _)) = _
    rw [qi_add, Nat.pow_succ]
    refine congrArg (fun f => some (Sum.inl (a, b, lN ((v % (1000000000 ^ i * 1000000000) + w % (1000000000 ^ i * 1000000000) * 1) / (1000000000 ^ i * 1000000000)), nI (i + 1), gsR u a f))) ?_
    funext k
    show (if k = i then nI ((v + w * 1) / 1000000000 ^ i % 1000000000) else (if k < i then nI ((v + w) / 1000000000 ^ k % 1000000000) else u.2.2.1 a k)) = _
    by_cases h1 : k = i
    · rw [if_pos h1, if_pos (by omega), h1, Nat.mul_one]
    · rw [if_neg h1]
      by_cases h2 : k < i
      · rw [if_pos h2, if_pos (by omega)]
      · rw [if_neg h2, if_neg (by omega)]
/-- one step of a difference: t is one where the lower part is the less -/
theorem sstep {B P v w : Nat} (hP : 0 < P) (hB : 0 < B) (h : w ≤ v) : (w / P % B + (if v % P < w % P then 1 else 0) ≤ v / P % B → (v - w) / P % B = v / P % B - w / P % B - (if v % P < w % P then 1 else 0) ∧ (if v % (P * B) < w % (P * B) then 1 else 0) = 0) ∧ (v / P % B < w / P % B + (if v % P < w % P then 1 else 0) → (v - w) / P % B = v / P % B + B - w / P % B - (if v % P < w % P then 1 else 0) ∧ (if v % (P * B) < w % (P * B) then 1 else 0) = 1) := by
  have ev := Nat.mod_add_div v P
  have ew := Nat.mod_add_div w P
  have hv := Nat.mod_lt v hP
  have hw := Nat.mod_lt w hP
  have evB : v % (P * B) = v % P + P * (v / P % B) := Nat.mod_mul ..
  have ewB : w % (P * B) = w % P + P * (w / P % B) := Nat.mod_mul ..
  have e1 := Nat.mod_add_div (v / P) B
  have e2 := Nat.mod_add_div (w / P) B
  have h1 : v / P % B < B := Nat.mod_lt _ hB
  have h2 : w / P % B < B := Nat.mod_lt _ hB
  have hq : w / P ≤ v / P := Nat.div_le_div_right h
  have key : (v - w) / P = v / P - w / P - (if v % P < w % P then 1 else 0) := by
    by_cases c : v % P < w % P
    · rw [if_pos c]
      have hlt : w / P < v / P := by
        rcases Nat.lt_or_ge (w / P) (v / P) with h9 | h9
        · exact h9
        · have : v / P = w / P := by omega
          rw [this] at ev
          omega
      have e9 : v - w = (v % P + P - w % P) + P * (v / P - w / P - 1) := by
        have h8 : P * (v / P) = P * (w / P) + P * (v / P - w / P - 1) + P := by
          have h7 : v / P = w / P + (v / P - w / P - 1) + 1 := by omega
          have h6 : P * (v / P) = P * (w / P + (v / P - w / P - 1) + 1) := congrArg (fun z => P * z) h7
          rw [Nat.mul_add, Nat.mul_add, Nat.mul_one] at h6
          exact h6
        omega
      rw [e9, Nat.add_mul_div_left _ _ hP, Nat.div_eq_of_lt (by omega)]
      omega
    · rw [if_neg c]
      have e9 : v - w = (v % P - w % P) + P * (v / P - w / P) := by
        have h8 : P * (v / P) = P * (w / P) + P * (v / P - w / P) := by
          rw [← Nat.mul_add]
          congr 1
          omega
        omega
      rw [e9, Nat.add_mul_div_left _ _ hP, Nat.div_eq_of_lt (by omega)]
      omega
  rw [key]
  have hle : (if v % P < w % P then 1 else 0) ≤ v / P - w / P := by
    split
    · rename_i c
      rcases Nat.lt_or_ge (w / P) (v / P) with h9 | h9
      · omega
      · have : v / P = w / P := by omega
        rw [this] at ev
        omega
    · omega
  have ht : (if v % P < w % P then 1 else 0) ≤ 1 := by split <;> omega
  generalize hT : (if v % P < w % P then 1 else 0) = t at *
  generalize v / P % B = dv at *
  generalize w / P % B = dw at *
  generalize v / P / B = qv at *
  generalize w / P / B = qw at *
  have cmpB : ∀ x y : Nat, x < y → P * x + P ≤ P * y := fun x y hxy => by
    have : P * (x + 1) ≤ P * y := Nat.mul_le_mul_left P hxy
    rw [Nat.mul_add, Nat.mul_one] at this
    exact this
  constructor
  · intro c
    refine ⟨?_, ?_⟩
    · have hqq : B * qw ≤ B * qv := by
        rcases Nat.lt_or_ge qv qw with h9 | h9
        · have : B * (qv + 1) ≤ B * qw := Nat.mul_le_mul_left B h9
          rw [Nat.mul_add, Nat.mul_one] at this
          omega
        · exact Nat.mul_le_mul_left B h9
      have hqq2 : B * qv = B * qw + B * (qv - qw) := by
        rcases Nat.lt_or_ge qv qw with h9 | h9
        · have : B * (qv + 1) ≤ B * qw := Nat.mul_le_mul_left B h9
          rw [Nat.mul_add, Nat.mul_one] at this
          omega
        · rw [← Nat.mul_add]
          congr 1
          omega
      have e9 : v / P - w / P - t = (dv - dw - t) + B * (qv - qw) := by omega
      rw [e9, Nat.add_mul_mod_self_left, Nat.mod_eq_of_lt (by omega)]
    · rw [if_neg]
      rw [evB, ewB]
      rcases Nat.lt_trichotomy dw dv with h9 | h9 | h9
      · have := cmpB dw dv h9
        omega
      · subst h9
        have : t = 0 := by omega
        subst this
        have hc : ¬ v % P < w % P := by
          intro h8
          rw [if_pos h8] at hT
          cases hT
        omega
      · omega
  · intro c
    refine ⟨?_, ?_⟩
    · have hqlt : qw < qv := by
        rcases Nat.lt_or_ge qw qv with h9 | h9
        · exact h9
        · have : B * qv ≤ B * qw := Nat.mul_le_mul_left B h9
          omega
      have hqq2 : B * qv = B * qw + B * (qv - qw - 1) + B := by
        have : qv = qw + (qv - qw - 1) + 1 := by omega
        have h8 : B * qv = B * (qw + (qv - qw - 1) + 1) := congrArg (fun z => B * z) this
        rw [Nat.mul_add, Nat.mul_add, Nat.mul_one] at h8
        exact h8
      have e9 : v / P - w / P - t = (dv + B - dw - t) + B * (qv - qw - 1) := by omega
      rw [e9, Nat.add_mul_mod_self_left, Nat.mod_eq_of_lt (by omega)]
    · rw [if_pos]
      rw [evB, ewB]
      rcases Nat.lt_trichotomy dv dw with h9 | h9 | h9
      · have := cmpB dv dw h9
        omega
      · subst h9
        have : t = 1 := by omega
        subst this
        have hc : v % P < w % P := by
          by_cases h8 : v % P < w % P
          · exact h8
          · rw [if_neg h8] at hT
            cases hT
        omega
      · omega
theorem p_wsub {u : gSt} {a b v w : Nat} (hne : a ≠ b) (ha : gK a = 22) (hb : gK b = 22) (la : gLen a = 8) (lb9 : gLen b = 8) (hv : Wv u a v) (hw : Wv u b w) (h : w ≤ v) : M_Wide_subtract a b u = some (wr u a (v - w)) := by
  have k1 : (gK a == 22) = true := by rw [ha]; rfl
  have k2 : (gK b == 22) = true := by rw [hb]; rfl
  have e0 : (a, b, (0 : Int32), (0 : Int32), u) = (fun i => (a, b, nI (if v % 1000000000 ^ i < w % 1000000000 ^ i then 1 else 0), nI i, gsR u a (fun k => if k < i then nI ((v - w) / 1000000000 ^ k % 1000000000) else u.2.2.1 a k))) 0 := by
    show _ = (a, b, nI (if v % 1000000000 ^ 0 < w % 1000000000 ^ 0 then 1 else 0), nI 0, gsR u a (fun k => if k < 0 then nI ((v - w) / 1000000000 ^ k % 1000000000) else u.2.2.1 a k))
    rw [gsR_0, Nat.pow_zero, Nat.mod_one, Nat.mod_one]
    · rfl
    · funext k
      rw [if_neg (by omega)]
  unfold M_Wide_subtract
  rw [e0, lp_to (S := fun i => (a, b, nI (if v % 1000000000 ^ i < w % 1000000000 ^ i then 1 else 0), nI i, gsR u a (fun k => if k < i then nI ((v - w) / 1000000000 ^ k % 1000000000) else u.2.2.1 a k))) (y := gsR u a (fun k => if k < 8 then nI ((v - w) / 1000000000 ^ k % 1000000000) else u.2.2.1 a k)) (k := 0) (N := 8) (Nat.zero_le _) (fun i _ hi => ?_) rfl]
  · rfl
  · show M_Wide_subtract_b4 a b (nI (if v % 1000000000 ^ i < w % 1000000000 ^ i then 1 else 0)) (nI i) (gsR u a (fun k => if k < i then nI ((v - w) / 1000000000 ^ k % 1000000000) else u.2.2.1 a k)) = some (Sum.inl (a, b, nI (if v % 1000000000 ^ (i + 1) < w % 1000000000 ^ (i + 1) then 1 else 0), nI (i + 1), gsR u a (fun k => if k < i + 1 then nI ((v - w) / 1000000000 ^ k % 1000000000) else u.2.2.1 a k)))
    obtain ⟨m1, m2⟩ := sstep (B := 1000000000) (P := 1000000000 ^ i) (v := v) (w := w) (e9_pos i) (by decide) h
    have hd := wd_lt (v := v) (i := i)
    have he := wd_lt (v := w) (i := i)
    have ht : (if v % 1000000000 ^ i < w % 1000000000 ^ i then 1 else 0) ≤ 1 := by split <;> omega
    have w1 : (gsR u a (fun k => if k < i then nI ((v - w) / 1000000000 ^ k % 1000000000) else u.2.2.1 a k)).2.2.1 a i = nI (v / 1000000000 ^ i % 1000000000) := by
      rw [gsR_a]
      show (if i < i then _ else u.2.2.1 a i) = _
      rw [if_neg (by omega), hv.2 i hi]
    have w2 : (gsR u a (fun k => if k < i then nI ((v - w) / 1000000000 ^ k % 1000000000) else u.2.2.1 a k)).2.2.1 b i = nI (w / 1000000000 ^ i % 1000000000) := by
      rw [gsR_b (Ne.symm hne), hw.2 i hi]
    rw [← Nat.pow_succ] at m1 m2
    have fin : ∀ x : Nat, (v - w) / 1000000000 ^ i % 1000000000 = x → gsA (gsR u a (fun k => if k < i then nI ((v - w) / 1000000000 ^ k % 1000000000) else u.2.2.1 a k)) a i (nI x) = gsR u a (fun k => if k < i + 1 then nI ((v - w) / 1000000000 ^ k % 1000000000) else u.2.2.1 a k) := fun x hx => by
      rw [gsA_R, gsR_R, gsR_a]
      refine gsR_e fun k => ?_
      show (if k = i then nI x else (if k < i then nI ((v - w) / 1000000000 ^ k % 1000000000) else u.2.2.1 a k)) = _
      by_cases h1 : k = i
      · rw [if_pos h1, if_pos (by omega), h1, hx]
      · rw [if_neg h1]
        by_cases h2 : k < i
        · rw [if_pos h2, if_pos (by omega)]
        · rw [if_neg h2, if_neg (by omega)]
    generalize hT : (if v % 1000000000 ^ i < w % 1000000000 ^ i then 1 else 0) = t at m1 m2 ht
    generalize v / 1000000000 ^ i % 1000000000 = dv at m1 m2 hd w1
    generalize w / 1000000000 ^ i % 1000000000 = dw at m1 m2 he w2
    unfold M_Wide_subtract_b4 M_Wide_subtract_b31 M_Wide_subtract_b49
    rw [if_neg (show ¬ (8 : Int32) ≤ nI i by rw [show (8 : Int32) = nI 8 from rfl, qi_le (by omega) (by omega)]; omega), gc_t k1, gc_t (qi_in (by omega) (by omega)), gc_t k2, gc_t (qi_in (by omega) (by omega)), qi_ix (by omega), w1, w2]
    by_cases c : dw + t ≤ dv
    · obtain ⟨q1, q2⟩ := m1 c
      have e1 : nI dv - nI dw - nI t = nI (dv - dw - t) := by rw [pk_sub (by omega), pk_sub (by omega)]
      have c1 : (0 : Int32) ≤ nI (dv - dw - t) := (qi_le (a := 0) (by omega) (by omega)).mpr (by omega)
      rw [e1, if_pos c1, if_pos c1, gc_t k1, gc_t (qi_in (by omega) (by omega)), Option.bind_some, fin _ q1, q2]
      show some (Sum.inl (a, b, (0 : Int32), nI i + nI 1, _)) = _
      rw [qi_add]
      rfl
    · obtain ⟨q1, q2⟩ := m2 (by omega)
      have e1 : (nI dv - nI dw - nI t).toInt = (dv : Int) - dw - t := by
        rw [Int32.toInt_sub, Int32.toInt_sub, nI_toInt (by omega), nI_toInt (by omega), nI_toInt (by omega)]
        rw [Int.bmod_eq_of_le (n := (dv : Int) - dw) (by omega) (by omega)]
        rw [Int.bmod_eq_of_le (n := (dv : Int) - dw - t) (by omega) (by omega)]
      have c1 : ¬ (0 : Int32) ≤ nI dv - nI dw - nI t := by
        rw [Int32.le_iff_toInt_le, e1, Int32.toInt_zero]
        omega
      have e2 : nI dv - nI dw - nI t + (1000000000 : Int32) = nI (dv + 1000000000 - dw - t) := by
        rw [← Int32.toInt_inj, Int32.toInt_add, e1, nI_toInt (by omega), show (1000000000 : Int32).toInt = 1000000000 from rfl]
        rw [Int.bmod_eq_of_le (by omega) (by omega)]
        omega
      rw [if_neg c1, if_neg c1, gc_t k1, gc_t (qi_in (by omega) (by omega)), Option.bind_some, e2, fin _ q1, q2]
      show some (Sum.inl (a, b, (1 : Int32), nI i + nI 1, _)) = _
      rw [qi_add]
      rfl
