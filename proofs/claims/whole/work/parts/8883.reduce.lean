/-! The class's reduce: what is left has no common factor. -/
theorem gcd_small {g x : Nat} (hg : ∀ f, 2 ≤ f → f ≤ 200 → ¬ f ∣ g) (h0 : 0 < x) (hx : x ≤ 200) : Nat.Coprime g x := by
  have h1 : Nat.gcd g x ∣ g := Nat.gcd_dvd_left g x
  have h2 : Nat.gcd g x ∣ x := Nat.gcd_dvd_right g x
  have h3 : Nat.gcd g x ≤ x := Nat.le_of_dvd h0 h2
  have h4 : 0 < Nat.gcd g x := Nat.gcd_pos_of_pos_right g h0
  by_cases c : Nat.gcd g x = 1
  · exact c
  · exact absurd h1 (hg _ (by omega) (by omega))
theorem ch_strip {g : Nat} (hg : ∀ f, 2 ≤ f → f ≤ 200 → ¬ f ∣ g) : ∀ (n N : Nat), n ≤ N → N ≤ 200 → g ∣ ch N n → g ∣ 1
  | 0, N, _, _, h => by
    rw [ch_0] at h
    exact h
  | n + 1, N, h1, h2, h => by
    obtain ⟨M, rfl⟩ : ∃ M, N = M + 1 := ⟨N - 1, by omega⟩
    have h3 : g ∣ (M + 1) * ch M n := by
      rw [← ch_ab]
      exact Nat.dvd_trans h (Nat.dvd_mul_left _ _)
    exact ch_strip hg n M (by omega) (by omega) (Nat.Coprime.dvd_of_dvd_mul_left (gcd_small hg (by omega) h2) h3)
theorem no_small {g N n p : Nat} (hg : ∀ f, 2 ≤ f → f ≤ 200 → ¬ f ∣ g) (h1 : n ≤ N) (h2 : N ≤ 200) (h0 : 0 < p) (hp : p ≤ 200) (h : g ∣ ch N n * p) : g = 1 := by
  have h3 : g ∣ p * ch N n := by
    rw [Nat.mul_comm]
    exact h
  exact Nat.dvd_one.mp (ch_strip hg n N h1 h2 (Nat.Coprime.dvd_of_dvd_mul_left (gcd_small hg h0 hp) h3))
def FW (u w : gSt) : Prop := w.1 = u.1 ∧ w.2.1 = u.2.1 ∧ (∀ a, a ≠ 40 → a ≠ 41 → w.2.2.1 a = u.2.2.1 a) ∧ w.2.2.2 = u.2.2.2
theorem FW_0 {u : gSt} : FW u u := ⟨rfl, rfl, fun _ _ _ => rfl, rfl⟩
theorem FW_t {u v w : gSt} (h : FW u v) (k : FW v w) : FW u w := ⟨by rw [k.1, h.1], by rw [k.2.1, h.2.1], fun a e f => by rw [k.2.2.1 a e f, h.2.2.1 a e f], by rw [k.2.2.2, h.2.2.2]⟩
theorem FW_w {u : gSt} {r v : Nat} (h : r = 40 ∨ r = 41) : FW u (wr u r v) := by
  refine ⟨rfl, rfl, fun a e f => ?_, rfl⟩
  unfold wr
  exact gsR_b (by omega)
theorem d_common {u : gSt} {a b f : Nat} (ha : Wv u 40 a) (hb : Wv u 41 b) (hf : 2 ≤ f) (hf2 : f ≤ 200) : M_Strip_isCommon (nI f) u = some (b2i (decide (b % f = 0) && decide (a % f = 0)), u) := by
  unfold M_Strip_isCommon M_Strip_isCommon_b26 M_Strip_isCommon_b27
  rw [p_isMultiple (r := 41) rfl rfl hb (by omega) (by omega), Option.bind_some]
  cases decide (b % f = 0)
  · rfl
  · show (if (1 : Int32) = 0 then _ else ((M_Wide_isMultiple 40 (nI f) u).bind _)) = _
    rw [if_neg (by decide), p_isMultiple (r := 40) rfl rfl ha (by omega) (by omega), Option.bind_some]
    cases decide (a % f = 0) <;> rfl
theorem d_inner {f : Nat} (hf : 2 ≤ f) (hf2 : f ≤ 200) : ∀ (n a b k : Nat) (u : gSt), a ≤ n → 0 < a → a * 2 ^ k < 2 ^ 240 → Wv u 40 a → Wv u 41 b → ∃ w a' b' t, gLp M_Strip_reduce_L11 (nI f, nI k, u) = some (nI f, w) ∧ FW u w ∧ Wv w 40 a' ∧ Wv w 41 b' ∧ a = a' * t ∧ b = b' * t ∧ ¬ (b' % f = 0 ∧ a' % f = 0) := by
  intro n
  induction n with
  | zero => intro a b k u h1 h2; omega
  | succ n ih =>
    intro a b k u h1 h2 h3 ha hb
    have hk : k < 240 := by
      have h4 : 1 * 2 ^ k ≤ a * 2 ^ k := Nat.mul_le_mul h2 (Nat.le_refl _)
      have h5 : 2 ^ k < 2 ^ 240 := by omega
      exact (Nat.pow_lt_pow_iff_right (by decide)).mp h5
    have hun : M_Strip_reduce_b11 (nI f) (nI k) u = if b2i (decide (b % f = 0) && decide (a % f = 0)) = (0 : Int32) then some (.inr (nI f, u)) else ((M_Wide_divide 40 (nI f) u).bind fun q31 => (M_Wide_divide 41 (nI f) q31).bind fun q39 => some (.inl (nI f, nI k + (1 : Int32), q39))) := by
      unfold M_Strip_reduce_b11
      rw [show (240 : Int32) = nI 240 from rfl, if_neg (by rw [qi_le (by omega) (by omega)]; omega), d_common ha hb hf hf2, Option.bind_some]
    by_cases c : b % f = 0 ∧ a % f = 0
    · have ec : (decide (b % f = 0) && decide (a % f = 0)) = true := by simp [c.1, c.2]
      have e2 := Nat.mod_add_div a f
      have hp : 0 < a / f := Nat.div_pos (Nat.le_of_dvd h2 (Nat.dvd_of_mod_eq_zero c.2)) (by omega)
      have hle : a / f * 2 ≤ a := by
        have : a / f * 2 ≤ a / f * f := Nat.mul_le_mul (Nat.le_refl _) hf
        rw [Nat.mul_comm (a / f) f] at this
        omega
      have w1 : Wv (wr u 40 (a / f)) 41 b := wr_b (by decide) hb
      have v40 : Wv (wr (wr u 40 (a / f)) 41 (b / f)) 40 (a / f) := wr_b (by decide) (wr_v (Nat.lt_of_le_of_lt (Nat.div_le_self _ _) ha.1))
      have v41 : Wv (wr (wr u 40 (a / f)) 41 (b / f)) 41 (b / f) := wr_v (Nat.lt_of_le_of_lt (Nat.div_le_self _ _) hb.1)
      obtain ⟨w, a', b', t, e, fw, p1, p2, p3, p4, p5'⟩ := ih (a / f) (b / f) (k + 1) (wr (wr u 40 (a / f)) 41 (b / f)) (by omega) hp (by
        rw [Nat.pow_succ, Nat.mul_comm (2 ^ k) 2, ← Nat.mul_assoc]
        exact Nat.lt_of_le_of_lt (Nat.mul_le_mul hle (Nat.le_refl _)) h3) v40 v41
      refine ⟨w, a', b', t * f, ?_, FW_t (FW_t (FW_w (Or.inl rfl)) (FW_w (Or.inr rfl))) fw, p1, p2, ?_, ?_, p5'⟩
      · rw [gLp_next (f := M_Strip_reduce_L11) (show M_Strip_reduce_L11 (nI f, nI k, u) = some (.inl (nI f, nI (k + 1), wr (wr u 40 (a / f)) 41 (b / f))) from by
          show M_Strip_reduce_b11 (nI f) (nI k) u = _
          rw [hun, ec, if_neg (by decide), p_divide (r := 40) rfl rfl ha (by omega) (by omega), Option.bind_some, p_divide (r := 41) rfl rfl w1 (by omega) (by omega), Option.bind_some, show (1 : Int32) = nI 1 from rfl, qi_add])]
        exact e
      · rw [← Nat.mul_assoc, ← p3, Nat.mul_comm]
        omega
      · have e3 := Nat.mod_add_div b f
        rw [← Nat.mul_assoc, ← p4, Nat.mul_comm]
        omega
    · have ec : (decide (b % f = 0) && decide (a % f = 0)) = false := by
        rw [Bool.and_eq_false_iff, decide_eq_false_iff_not, decide_eq_false_iff_not]
        omega
      refine ⟨u, a, b, 1, gLp_done ?_, FW_0, ha, hb, by omega, by omega, c⟩
      show M_Strip_reduce_b11 (nI f) (nI k) u = _
      rw [hun, ec, if_pos (show b2i false = (0 : Int32) from rfl)]
theorem d_reduce {u : gSt} {a b N n p : Nat} (ha : Wv u 40 a) (hb : Wv u 41 b) (h0 : 0 < a) (h240 : a < 2 ^ 240) (hN : n ≤ N) (hN2 : N ≤ 200) (hp0 : 0 < p) (hp : p ≤ 200) (hbe : b = ch N n * p) : ∃ w, M_Strip_reduce u = some w ∧ FW u w ∧ Wv w 40 (a / Nat.gcd a b) ∧ Wv w 41 (b / Nat.gcd a b) := by
  obtain ⟨w, e, a', b', t, fw, w40, w41, ea, eb, hs⟩ := lp_rel (f := M_Strip_reduce_L2) (Po := fun w : gSt => ∃ a' b' t, FW u w ∧ Wv w 40 a' ∧ Wv w 41 b' ∧ a = a' * t ∧ b = b' * t ∧ ∀ f, 2 ≤ f → f ≤ 200 → ¬ f ∣ Nat.gcd a' b') (fun i (x : Int32 × gSt) => x.1 = nI i ∧ ∃ a' b' t, FW u x.2 ∧ Wv x.2 40 a' ∧ Wv x.2 41 b' ∧ a = a' * t ∧ b = b' * t ∧ ∀ f, 2 ≤ f → f < i → ¬ f ∣ Nat.gcd a' b') 199 2 201 (by decide) (fun i x hi1 hi2 hx => by
    obtain ⟨x1, v⟩ := x
    obtain ⟨rfl, a', b', t, fw, w40, w41, ea, eb, hs⟩ := hx
    have pa : 0 < a' := by
      by_cases c : a' = 0
      · rw [c, Nat.zero_mul] at ea
        omega
      · omega
    have la : a' ≤ a := by
      rw [ea]
      have : 0 < t := by
        by_cases c : t = 0
        · rw [c, Nat.mul_zero] at ea
          omega
        · omega
      exact Nat.le_mul_of_pos_right _ this
    obtain ⟨w, a2, b2, t2, e, fw2, p1, p2, p3, p4, p5'⟩ := d_inner hi1 (by omega) a' a' b' 0 v (Nat.le_refl _) pa (by rw [Nat.pow_zero, Nat.mul_one]; omega) w40 w41
    refine ⟨(nI (i + 1), w), ?_, rfl, a2, b2, t2 * t, FW_t fw fw2, p1, p2, by rw [← Nat.mul_assoc, ← p3]; exact ea, by rw [← Nat.mul_assoc, ← p4]; exact eb, fun f h1 h2 h3 => ?_⟩
    · show M_Strip_reduce_b2 (nI i) v = _
      unfold M_Strip_reduce_b2
      rw [show (200 : Int32) = nI 200 from rfl, if_neg (by rw [qi_lt (by omega) (by omega)]; omega)]
      show ((gLp M_Strip_reduce_L11 (nI i, nI 0, v)).bind _) = _
      rw [e, Option.bind_some]
      show some (Sum.inl (nI i + nI 1, w)) = _
      rw [qi_add]
    · have d1 : f ∣ a2 := Nat.dvd_trans h3 (Nat.gcd_dvd_left _ _)
      have d2 : f ∣ b2 := Nat.dvd_trans h3 (Nat.gcd_dvd_right _ _)
      by_cases c : f = i
      · subst c
        exact p5' ⟨Nat.mod_eq_zero_of_dvd d2, Nat.mod_eq_zero_of_dvd d1⟩
      · refine hs f h1 (by omega) (Nat.dvd_gcd ?_ ?_)
        · rw [p3]
          exact Nat.dvd_trans d1 (Nat.dvd_mul_right _ _)
        · rw [p4]
          exact Nat.dvd_trans d2 (Nat.dvd_mul_right _ _)) (fun x hx => by
    obtain ⟨x1, v⟩ := x
    obtain ⟨rfl, a', b', t, fw, w40, w41, ea, eb, hs⟩ := hx
    refine ⟨v, ?_, a', b', t, fw, w40, w41, ea, eb, fun f h1 h2 => hs f h1 (by omega)⟩
    show M_Strip_reduce_b2 (nI 201) v = _
    unfold M_Strip_reduce_b2
    rw [if_pos (by decide)]) (nI 2, u) ⟨rfl, a, b, 1, FW_0, ha, hb, by omega, by omega, fun f h1 h2 => by omega⟩
  have hg1 : Nat.gcd a' b' = 1 := no_small hs hN hN2 hp0 hp (by
    rw [← hbe, eb]
    exact Nat.dvd_trans (Nat.gcd_dvd_right _ _) (Nat.dvd_mul_right _ _))
  have ht : 0 < t := by
    by_cases c : t = 0
    · rw [c, Nat.mul_zero] at ea
      omega
    · omega
  have hg : Nat.gcd a b = t := by
    rw [ea, eb, Nat.gcd_mul_right, hg1, Nat.one_mul]
  refine ⟨w, ?_, fw, ?_, ?_⟩
  · unfold M_Strip_reduce
    show ((gLp M_Strip_reduce_L2 (nI 2, u)).bind _) = _
    rw [e]
    rfl
  · rw [hg, ea, Nat.mul_div_cancel _ ht]
    exact w40
  · rw [hg, eb, Nat.mul_div_cancel _ ht]
    exact w41
