/-! The class writes rounded numbers. -/
def FZ1 (u w : gSt) : Prop := (∀ a j, a ≠ 38 ∨ j ≠ 3 → w.1 a j = u.1 a j) ∧ w.2.1 = u.2.1 ∧ (∀ a, a ≠ 39 → a ≠ 40 → a ≠ 41 → w.2.2.1 a = u.2.2.1 a) ∧ w.2.2.2 = u.2.2.2
theorem FZ1_t {u v w : gSt} (h : FZ1 u v) (k : FZ1 v w) : FZ1 u w := ⟨fun a j e => by rw [k.1 a j e, h.1 a j e], by rw [k.2.1, h.2.1], fun a e f g => by rw [k.2.2.1 a e f g, h.2.2.1 a e f g], by rw [k.2.2.2, h.2.2.2]⟩
theorem FZ1_Y {u w : gSt} (h : FY u w) : FZ1 u w := ⟨h.1, h.2.1, fun a e _ _ => h.2.2.1 a e, h.2.2.2⟩
theorem FZ1_W {u w : gSt} (h : FW u w) : FZ1 u w := ⟨fun a j _ => by rw [h.1], h.2.1, fun a _ e f => h.2.2.1 a e f, h.2.2.2⟩
theorem tS_W {u w : gSt} {T : Nat → Nat} {m : Nat} (h : FW u w) (ht : tS u T m) : tS w T m := ⟨by rw [h.1]; exact ht.1, fun i hi => by rw [h.2.2.1 39 (by decide) (by decide)]; exact ht.2 i hi⟩
theorem d_next {u : gSt} {a b m : Nat} {T : Nat → Nat} (ha : Wv u 40 a) (hb : Wv u 41 b) (h0 : 0 < b) (h10 : a < 10 * b) (ht : tS u T m) (hm : m < 160) (hT : T m = 48 + a / b) : ∃ w, M_Strip_writeNextDigit u = some w ∧ tS w T (m + 1) ∧ FZ1 u w ∧ Wv w 40 (a % b) ∧ Wv w 41 b := by
  have hq : a / b < 10 := by
    rw [Nat.div_lt_iff_lt_mul h0]
    exact h10
  have hmd := Nat.mod_add_div a b
  have hml := Nat.mod_lt a h0
  have hk : ∀ k, k ≤ a / b → b * k ≤ a := fun k hk => by
    have : b * k ≤ b * (a / b) := Nat.mul_le_mul (Nat.le_refl _) hk
    omega
  have wk : ∀ k, Wv (wr u 40 (a - b * k)) 40 (a - b * k) := fun k => wr_v (Nat.lt_of_le_of_lt (Nat.sub_le _ _) ha.1)
  have wb : ∀ k, Wv (wr u 40 (a - b * k)) 41 b := fun k => wr_b (by decide) hb
  have key : gLp M_Strip_writeNextDigit_L2 (nI 0, wr u 40 (a - b * 0)) = some (nI (a / b), wr u 40 (a - b * (a / b))) := by
    refine lp_to (S := fun k => (nI k, wr u 40 (a - b * k))) (k := 0) (N := a / b) (Nat.zero_le _) (fun k _ hk2 => ?_) ?_
    · have h1 := hk (k + 1) (by omega)
      have h2 : b * (k + 1) = b * k + b := rfl
      show M_Strip_writeNextDigit_b2 (nI k) (wr u 40 (a - b * k)) = _
      unfold M_Strip_writeNextDigit_b2
      rw [show (9 : Int32) = nI 9 from rfl, if_neg (by rw [qi_le (by omega) (by omega)]; omega), p_compare (a := 40) (b := 41) rfl rfl rfl rfl (wk k) (wb k), Option.bind_some]
      show (if cmp (a - b * k) b < (0 : Int32) then _ else ((M_Wide_subtract 40 41 (wr u 40 (a - b * k))).bind fun q30 => some (Sum.inl (nI k + nI 1, q30)))) = _
      rw [if_neg (by rw [cmp_neg]; omega), p_wsub (a := 40) (b := 41) (by decide) rfl rfl rfl rfl (wk k) (wb k) (by omega), Option.bind_some, wr_wr, qi_add, show a - b * k - b = a - b * (k + 1) by omega]
    · show M_Strip_writeNextDigit_b2 (nI (a / b)) (wr u 40 (a - b * (a / b))) = _
      unfold M_Strip_writeNextDigit_b2
      by_cases c : 9 ≤ a / b
      · rw [show (9 : Int32) = nI 9 from rfl, if_pos ((qi_le (by omega) (by omega)).mpr c)]
      · rw [show (9 : Int32) = nI 9 from rfl, if_neg (by rw [qi_le (by omega) (by omega)]; exact c), p_compare (a := 40) (b := 41) rfl rfl rfl rfl (wk _) (wb _), Option.bind_some]
        show (if cmp (a - b * (a / b)) b < (0 : Int32) then some (Sum.inr (nI (a / b), wr u 40 (a - b * (a / b)))) else _) = _
        rw [if_pos (cmp_neg.mpr (by omega))]
  rw [Nat.mul_zero, Nat.sub_zero, wr_0 ha, show a - b * (a / b) = a % b by omega] at key
  have fw : FW u (wr u 40 (a % b)) := FW_w (Or.inl rfl)
  obtain ⟨w, ew, tw, fy⟩ := d_write (tS_W fw ht) hm (show 48 + a / b < 128 by omega) hT
  refine ⟨w, ?_, tw, FZ1_t (FZ1_W fw) (FZ1_Y fy), Wv_Y fy (by decide) (wr_v (Nat.lt_of_le_of_lt (Nat.mod_le _ _) ha.1)), Wv_Y fy (by decide) (wr_b (by decide) hb)⟩
  unfold M_Strip_writeNextDigit
  show ((gLp M_Strip_writeNextDigit_L2 (nI 0, u)).bind _) = _
  rw [key, Option.bind_some]
  show ((M_Strip_write (nI 48 + nI (a / b)) (wr u 40 (a % b))).bind fun q44 => some q44) = _
  rw [qi_add, ew]
  rfl
/-- the text of V with p places -/
def tx (V p : Nat) : Nat → Nat := fun i => if i = 0 then 48 + V / 10 ^ p % 10 else if i = 1 then 46 else 48 + V / 10 ^ (p + 1 - i) % 10
def txL (p : Nat) : Nat := if p = 0 then 1 else p + 2
theorem v_div {a b p k : Nat} (hb : 0 < b) (hk : k ≤ p) : a * 10 ^ p / b / 10 ^ (p - k) = a * 10 ^ k / b := by
  have e : a * 10 ^ p = a * 10 ^ k * 10 ^ (p - k) := by
    rw [Nat.mul_assoc, ← Nat.pow_add, show k + (p - k) = p by omega]
  rw [Nat.div_div_eq_div_mul, e, Nat.mul_div_mul_right _ _ (Nat.pow_pos (by decide))]
theorem v_step {a b k : Nat} (hb : 0 < b) : a * 10 ^ k % b * 10 % b = a * 10 ^ (k + 1) % b ∧ a * 10 ^ k % b * 10 / b = a * 10 ^ (k + 1) / b % 10 ∧ a * 10 ^ k % b * 10 < 10 * b := by
  have e : a * 10 ^ (k + 1) = a * 10 ^ k * 10 := by rw [Nat.pow_succ, Nat.mul_assoc]
  rw [e]
  generalize a * 10 ^ k = x
  have h := Nat.mod_add_div x b
  have hl := Nat.mod_lt x hb
  have e2 : x * 10 = x % b * 10 + b * (x / b * 10) := by
    rw [← Nat.mul_assoc]
    omega
  refine ⟨?_, ?_, by omega⟩
  · rw [e2, Nat.add_mul_mod_self_left]
  · rw [e2, Nat.add_mul_div_left _ _ hb]
    have hq : x % b * 10 / b < 10 := by
      rw [Nat.div_lt_iff_lt_mul hb]
      omega
    clear e2 h hl e
    generalize x % b * 10 / b = q at *
    generalize x / b = y
    omega
/-! raising the last digit -/
theorem inc_lo {V k : Nat} (h : V % 10 ^ k = 10 ^ k - 1) : (V + 1) / 10 ^ k = V / 10 ^ k + 1 := by
  have hp : 0 < 10 ^ k := Nat.pow_pos (by decide)
  have e := Nat.mod_add_div V (10 ^ k)
  have e2 : V + 1 = 10 ^ k * (V / 10 ^ k + 1) := by
    rw [Nat.mul_add, Nat.mul_one]
    omega
  rw [e2, Nat.mul_div_cancel_left _ hp]
theorem inc_hi {V k e : Nat} (h : V % 10 ^ k = 10 ^ k - 1) (h9 : V / 10 ^ k % 10 ≠ 9) (he : k < e) : (V + 1) / 10 ^ e = V / 10 ^ e := by
  obtain ⟨d, rfl⟩ : ∃ d, e = k + (1 + d) := ⟨e - k - 1, by omega⟩
  rw [Nat.pow_add, Nat.pow_add, ← Nat.div_div_eq_div_mul, ← Nat.div_div_eq_div_mul, ← Nat.div_div_eq_div_mul, ← Nat.div_div_eq_div_mul, inc_lo h, Nat.pow_one]
  generalize V / 10 ^ k = q at h9 ⊢
  rw [show (q + 1) / 10 = q / 10 by omega]
theorem inc_9 {V k : Nat} (h : V % 10 ^ k = 10 ^ k - 1) (h9 : V / 10 ^ k % 10 = 9) : V % 10 ^ (k + 1) = 10 ^ (k + 1) - 1 := by
  have hp : 0 < 10 ^ k := Nat.pow_pos (by decide)
  rw [Nat.pow_succ, Nat.mod_mul, h, h9]
  omega
def exC (p i : Nat) : Nat := if i ≤ 1 then p else p + 1 - i
theorem d_raiseL {V p : Nat} (hp : p ≤ 40) (hV : V < 10 ^ p) : ∀ (i : Nat) (u : gSt), i < txL p → u.1 38 3 = nI (txL p) → (∀ j, j ≤ i → u.2.2.1 39 j = nI (tx V p j)) → (∀ j, i < j → j < txL p → u.2.2.1 39 j = nI (tx (V + 1) p j)) → V % 10 ^ exC p i = 10 ^ exC p i - 1 → ∃ w, ((gLp M_Strip_raiseLastDigit_L7 (nI i, u)).bind fun y7 => (Sum.elim (fun y7_0 => some y7_0) (fun y7_1 => gc (gIn y7_1.1 (gLen 39)) <| gc (gIn y7_1.1 (gLen 39)) <| (some (gsA y7_1.2 39 (gIx y7_1.1) (((((y7_1.2.2.2.1 39 (gIx y7_1.1)) + (1 : Int32)).toUInt32 % 65536).toInt32).toUInt32.toUInt16.toUInt32.toInt32))).bind fun u54 => some u54)) y7) = some w ∧ tS w (tx (V + 1) p) (txL p) ∧ FY u w := by
  intro i
  have hL : txL p ≤ 42 := by
    unfold txL
    split <;> omega
  -- the end: the character at i becomes one more
  have fin : ∀ (i : Nat) (u : gSt), i < txL p → u.1 38 3 = nI (txL p) → (∀ j, j ≤ i → u.2.2.1 39 j = nI (tx V p j)) → (∀ j, i < j → j < txL p → u.2.2.1 39 j = nI (tx (V + 1) p j)) → tx V p i ≠ 57 → tx V p i ≠ 46 → tx V p i < 100 → tx (V + 1) p i = tx V p i + 1 → (∀ j, j < i → tx (V + 1) p j = tx V p j) → ∃ w, ((gLp M_Strip_raiseLastDigit_L7 (nI i, u)).bind fun y7 => (Sum.elim (fun y7_0 => some y7_0) (fun y7_1 => gc (gIn y7_1.1 (gLen 39)) <| gc (gIn y7_1.1 (gLen 39)) <| (some (gsA y7_1.2 39 (gIx y7_1.1) (((((y7_1.2.2.2.1 39 (gIx y7_1.1)) + (1 : Int32)).toUInt32 % 65536).toInt32).toUInt32.toUInt16.toUInt32.toInt32))).bind fun u54 => some u54)) y7) = some w ∧ tS w (tx (V + 1) p) (txL p) ∧ FY u w := fun i u hi h3 ha hb n57 n46 l100 hx hlo => by
    have gi : gIn (nI i) (gLen 39) = true := qi_in (n := gLen 39) (by omega) (show i < 160 by omega)
    have e1 : gLp M_Strip_raiseLastDigit_L7 (nI i, u) = some (.inr (nI i, u)) := by
      refine gLp_done ?_
      show M_Strip_raiseLastDigit_b7 (nI i) u = _
      unfold M_Strip_raiseLastDigit_b7
      rw [if_neg (show ¬ nI i < (0 : Int32) by rw [show (0 : Int32) = nI 0 from rfl, qi_lt (by omega) (by omega)]; omega), gc_t gi, qi_ix (by omega), ha i (Nat.le_refl _), show (57 : Int32) = nI 57 from rfl, if_neg (by rw [qi_eq (by omega) (by omega)]; exact n57), gc_t gi, show (46 : Int32) = nI 46 from rfl, if_neg (by rw [qi_eq (by omega) (by omega)]; exact n46)]
    refine ⟨gsR u 39 (upd (u.2.2.1 39) i (nI (tx V p i + 1))), ?_, ⟨h3, fun j hj => ?_⟩, ⟨fun _ _ _ => rfl, rfl, fun a e => gsR_b e, rfl⟩⟩
    · rw [e1, Option.bind_some]
      show (gc (gIn (nI i) (gLen 39)) <| gc (gIn (nI i) (gLen 39)) <| some (gsA u 39 (gIx (nI i)) (((((u.2.2.1 39 (gIx (nI i))) + nI 1).toUInt32 % 65536).toInt32).toUInt32.toUInt16.toUInt32.toInt32))) = _
      rw [gc_t gi, gc_t gi, qi_ix (by omega), ha i (Nat.le_refl _), qi_add, ch_128 _ (by omega), gsA_R]
    · rw [gsR_a]
      by_cases c : j = i
      · rw [c, pk_us, hx]
      · rw [pk_un c]
        by_cases c2 : j < i
        · rw [ha j (by omega), hlo j c2]
        · exact hb j (by omega) hj
  induction i with
  | zero =>
    intro u hi h3 ha hb hk
    have e0 : exC p 0 = p := rfl
    rw [e0, Nat.mod_eq_of_lt hV] at hk
    have hp1 : 0 < 10 ^ p := Nat.pow_pos (by decide)
    have t0 : tx V p 0 = 48 := by
      show 48 + V / 10 ^ p % 10 = 48
      rw [Nat.div_eq_of_lt hV]
    have t1 : tx (V + 1) p 0 = 49 := by
      show 48 + (V + 1) / 10 ^ p % 10 = 49
      rw [show V + 1 = 10 ^ p by omega, Nat.div_self hp1]
    exact fin 0 u hi h3 ha hb (by omega) (by omega) (by omega) (by omega) (fun j hj => by omega)
  | succ i ih =>
    intro u hi h3 ha hb hk
    have gi : gIn (nI (i + 1)) (gLen 39) = true := qi_in (n := gLen 39) (by omega) (show i + 1 < 160 by omega)
    have hneg : ¬ nI (i + 1) < (0 : Int32) := by
      rw [show (0 : Int32) = nI 0 from rfl, qi_lt (by omega) (by omega)]
      omega
    by_cases ci : i = 0
    · subst ci
      have e1 : M_Strip_raiseLastDigit_L7 (nI (0 + 1), u) = some (.inl (nI 0, u)) := by
        show M_Strip_raiseLastDigit_b7 (nI (0 + 1)) u = _
        unfold M_Strip_raiseLastDigit_b7 M_Strip_raiseLastDigit_b56
        rw [if_neg hneg, gc_t gi, qi_ix (by omega), ha 1 (Nat.le_refl _), show tx V p 1 = 46 from rfl, if_neg (by decide), gc_t gi, if_pos (by decide), qi_m1 (by omega)]
      obtain ⟨w, ew, tw, fw⟩ := ih u (by omega) h3 (fun j hj => ha j (by omega)) (fun j h1 h2 => by
        by_cases c : j = 1
        · rw [c]
          exact ha 1 (by omega)
        · exact hb j (by omega) h2) hk
      refine ⟨w, ?_, tw, fw⟩
      rw [gLp_next e1]
      exact ew
    · have hp0 : p ≠ 0 := fun e => by
        unfold txL at hi
        rw [if_pos e] at hi
        omega
      have hi2 : i + 1 < p + 2 := by
        unfold txL at hi
        rw [if_neg hp0] at hi
        exact hi
      have ek : exC p (i + 1) = p + 1 - (i + 1) := if_neg (by omega)
      rw [ek] at hk
      have tv : ∀ W, tx W p (i + 1) = 48 + W / 10 ^ (p + 1 - (i + 1)) % 10 := fun W => by
        unfold tx
        rw [if_neg (by omega), if_neg (by omega)]
      have hlo := inc_lo hk
      by_cases c9 : V / 10 ^ (p + 1 - (i + 1)) % 10 = 9
      · have e1 : M_Strip_raiseLastDigit_L7 (nI (i + 1), u) = some (.inl (nI i, gsR u 39 (upd (u.2.2.1 39) (i + 1) (nI 48)))) := by
          show M_Strip_raiseLastDigit_b7 (nI (i + 1)) u = _
          unfold M_Strip_raiseLastDigit_b7 M_Strip_raiseLastDigit_b56
          rw [if_neg hneg, gc_t gi, qi_ix (by omega), ha (i + 1) (Nat.le_refl _), tv V, c9, if_pos (by decide), gc_t gi, gsA_R, qi_m1 (by omega)]
          rfl
        have en : exC p i = p + 1 - (i + 1) + 1 := by
          unfold exC
          split <;> omega
        obtain ⟨w, ew, tw, fw⟩ := ih (gsR u 39 (upd (u.2.2.1 39) (i + 1) (nI 48))) (by omega) h3 (fun j hj => by
          rw [gsR_a, pk_un (by omega)]
          exact ha j (by omega)) (fun j h1 h2 => by
          rw [gsR_a]
          by_cases c : j = i + 1
          · rw [c, pk_us, tv (V + 1), hlo, show (V / 10 ^ (p + 1 - (i + 1)) + 1) % 10 = 0 by omega]
          · rw [pk_un c]
            exact hb j (by omega) h2) (by rw [en]; exact inc_9 hk c9)
        refine ⟨w, ?_, tw, FY_t (v := gsR u 39 (upd (u.2.2.1 39) (i + 1) (nI 48))) ⟨fun _ _ _ => rfl, rfl, fun a e => gsR_b e, rfl⟩ fw⟩
        rw [gLp_next e1]
        exact ew
      · have hd : V / 10 ^ (p + 1 - (i + 1)) % 10 < 10 := fig_lt
        refine fin (i + 1) u hi h3 ha hb (by rw [tv]; omega) (by rw [tv]; omega) (by rw [tv]; omega) ?_ (fun j hj => ?_)
        · rw [tv, tv, hlo]
          omega
        · unfold tx
          by_cases c0 : j = 0
          · rw [if_pos c0, if_pos c0, inc_hi hk c9 (by omega)]
          · rw [if_neg c0, if_neg c0]
            by_cases c1 : j = 1
            · rw [if_pos c1, if_pos c1]
            · rw [if_neg c1, if_neg c1, inc_hi hk c9 (by omega)]
theorem d_raise {u : gSt} {V p : Nat} (hp : p ≤ 40) (hV : V < 10 ^ p) (ht : tS u (tx V p) (txL p)) : ∃ w, M_Strip_raiseLastDigit u = some w ∧ tS w (tx (V + 1) p) (txL p) ∧ FY u w := by
  have hL : 1 ≤ txL p ∧ (p = 0 → txL p = 1) ∧ (p ≠ 0 → txL p = p + 2) := by
    unfold txL
    split <;> omega
  obtain ⟨w, ew, tw, fw⟩ := d_raiseL hp hV (txL p - 1) u (by omega) ht.1 (fun j hj => ht.2 j (by omega)) (fun j h1 h2 => by omega) (by
    have : exC p (txL p - 1) = 0 := by
      unfold exC
      split <;> omega
    rw [this]
    omega)
  refine ⟨w, ?_, tw, fw⟩
  unfold M_Strip_raiseLastDigit
  rw [ht.1, show (1 : Int32) = nI 1 from rfl, pk_sub hL.1]
  exact ew
