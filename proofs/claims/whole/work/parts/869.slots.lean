/-! The class's slots: compareSlots, isWithin. -/
theorem cmp_c {v w : Nat} : (v < w ∧ cmp v w = -1) ∨ (v = w ∧ cmp v w = 0) ∨ (w < v ∧ cmp v w = 1) := by
  unfold cmp
  by_cases h1 : v < w
  · exact Or.inl ⟨h1, if_pos h1⟩
  · by_cases h2 : v = w
    · exact Or.inr (Or.inl ⟨h2, by rw [if_neg h1, if_pos h2]⟩)
    · exact Or.inr (Or.inr ⟨by omega, by rw [if_neg h1, if_neg h2]⟩)
theorem cmp_pos {v w : Nat} : (0 : Int32) < cmp v w ↔ w < v := by
  rcases cmp_c (v := v) (w := w) with ⟨h, e⟩ | ⟨h, e⟩ | ⟨h, e⟩ <;> rw [e]
  · exact ⟨fun h9 => absurd h9 (by decide), fun h9 => by omega⟩
  · exact ⟨fun h9 => absurd h9 (by decide), fun h9 => by omega⟩
  · exact ⟨fun _ => h, fun _ => by decide⟩
theorem cmp_neg {v w : Nat} : cmp v w < (0 : Int32) ↔ v < w := by
  rcases cmp_c (v := v) (w := w) with ⟨h, e⟩ | ⟨h, e⟩ | ⟨h, e⟩ <;> rw [e]
  · exact ⟨fun _ => h, fun _ => by decide⟩
  · exact ⟨fun h9 => absurd h9 (by decide), fun h9 => by omega⟩
  · exact ⟨fun h9 => absurd h9 (by decide), fun h9 => by omega⟩
theorem cmp_nn {v w : Nat} : (0 : Int32) ≤ cmp v w ↔ w ≤ v := by
  rcases cmp_c (v := v) (w := w) with ⟨h, e⟩ | ⟨h, e⟩ | ⟨h, e⟩ <;> rw [e]
  · exact ⟨fun h9 => absurd h9 (by decide), fun h9 => by omega⟩
  · exact ⟨fun _ => by omega, fun _ => by decide⟩
  · exact ⟨fun _ => by omega, fun _ => by decide⟩
theorem cmp_np {v w : Nat} : cmp v w ≤ (0 : Int32) ↔ v ≤ w := by
  rcases cmp_c (v := v) (w := w) with ⟨h, e⟩ | ⟨h, e⟩ | ⟨h, e⟩ <;> rw [e]
  · exact ⟨fun _ => by omega, fun _ => by decide⟩
  · exact ⟨fun _ => by omega, fun _ => by decide⟩
  · exact ⟨fun h9 => absurd h9 (by decide), fun h9 => by omega⟩
theorem cmp_eq {v w : Nat} : cmp v w = (0 : Int32) ↔ v = w := by
  rcases cmp_c (v := v) (w := w) with ⟨h, e⟩ | ⟨h, e⟩ | ⟨h, e⟩ <;> rw [e]
  · exact ⟨fun h9 => absurd h9 (by decide), fun h9 => by omega⟩
  · exact ⟨fun _ => h, fun _ => rfl⟩
  · exact ⟨fun h9 => absurd h9 (by decide), fun h9 => by omega⟩
/-- what lies in the two scratch rows -/
def sc (u : gSt) (f g : Nat → Int32) : gSt := gsR (gsR u 36 f) 37 g
theorem sc_0 {u : gSt} : sc u (u.2.2.1 36) (u.2.2.1 37) = u := by
  unfold sc
  rw [gsR_0 (u := u) rfl, gsR_0 rfl]
theorem sc_o {u : gSt} {f g : Nat → Int32} {b : Nat} (h1 : b ≠ 36) (h2 : b ≠ 37) : (sc u f g).2.2.1 b = u.2.2.1 b := by
  unfold sc
  rw [gsR_b h2, gsR_b h1]
theorem sc_36 {u : gSt} {f g h : Nat → Int32} : gsR (sc u f g) 36 h = sc u h g := by
  unfold sc gsR
  refine Prod.ext rfl (Prod.ext rfl (Prod.ext (funext fun b => ?_) rfl))
  show (if b = 36 then h else if b = 37 then g else if b = 36 then f else u.2.2.1 b) = (if b = 37 then g else if b = 36 then h else u.2.2.1 b)
  by_cases h1 : b = 36
  · rw [if_pos h1, if_neg (by omega), if_pos h1]
  · rw [if_neg h1, if_neg h1, if_neg h1]
theorem sc_37 {u : gSt} {f g h : Nat → Int32} : gsR (sc u f g) 37 h = sc u f h := gsR_R
theorem sc_w36 {u : gSt} {f g : Nat → Int32} {v : Nat} : ∃ f', wr (sc u f g) 36 v = sc u f' g := ⟨_, sc_36⟩
theorem sc_w37 {u : gSt} {f g : Nat → Int32} {v : Nat} : ∃ g', wr (sc u f g) 37 v = sc u f g' := ⟨_, sc_37⟩
theorem sc_v {u : gSt} {f g : Nat → Int32} {b v : Nat} (h1 : b ≠ 36) (h2 : b ≠ 37) (h : Wv u b v) : Wv (sc u f g) b v := by
  refine ⟨h.1, fun i hi => ?_⟩
  rw [sc_o h1 h2]
  exact h.2 i hi
theorem gAR_s {i : Nat} (h : i < 800) : gAR 31 i = some (67 + i) := by
  unfold gAR
  rw [if_pos rfl, if_pos h]
theorem gK_s {i : Nat} (h : i < 800) : gK (67 + i) = 22 := by
  unfold gK
  rw [if_neg (by omega), if_pos (by omega)]
theorem gLen_s {i : Nat} : gLen (67 + i) = 8 := by
  unfold gLen
  rw [if_neg (by omega)]
/-- the slot i holds a / p -/
def Sl (u : gSt) (i a p : Nat) : Prop := Wv u (67 + i) a ∧ u.2.2.1 32 i = nI p ∧ 0 < p ∧ p ≤ 200 ∧ a ≤ 2 ^ 200 * 200
theorem big_m {a p : Nat} (ha : a ≤ 2 ^ 200 * 200) (hp : p < 2147483648) : a * p < 1000000000 ^ 8 := Nat.lt_of_le_of_lt (Nat.mul_le_mul ha (show p ≤ 2147483647 by omega)) (by decide)
/-- the fractions compared -/
def cmpP (a p b q : Nat) : Int32 := cmp (a * q) (b * p)
theorem cmp_mul {a b p : Nat} (hp : 0 < p) : cmp (a * p) (b * p) = cmp a b := by
  unfold cmp
  by_cases h1 : a < b
  · rw [if_pos h1, if_pos (Nat.mul_lt_mul_of_pos_right h1 hp)]
  · by_cases h2 : a = b
    · subst h2
      rw [if_neg (Nat.lt_irrefl _), if_pos rfl, if_neg (Nat.lt_irrefl _), if_pos rfl]
    · have h3 : b * p < a * p := Nat.mul_lt_mul_of_pos_right (by omega) hp
      rw [if_neg h1, if_neg h2, if_neg (by omega), if_neg (by omega)]
theorem p_cmpS {u : gSt} {f g : Nat → Int32} {i j a p b q : Nat} (hi : i < 800) (hj : j < 800) (h1 : Sl u i a p) (h2 : Sl u j b q) : ∃ f' g', M_Ranking_compareSlots (nI i) (nI j) (sc u f g) = some (cmpP a p b q, sc u f' g') := by
  obtain ⟨a1, a2, a3, a4, a5⟩ := h1
  obtain ⟨b1, b2, b3, b4, b5⟩ := h2
  have A1 := sc_v (f := f) (g := g) (by omega) (by omega) a1
  have B1 := sc_v (f := f) (g := g) (by omega) (by omega) b1
  unfold M_Ranking_compareSlots
  rw [gc_t (qi_in (n := gLen 32) (by omega) (show i < 800 from hi)), gc_t (qi_in (n := gLen 32) (by omega) (show j < 800 from hj)), qi_ix (by omega), qi_ix (by omega), sc_o (by decide) (by decide), a2, b2]
  by_cases c : p = q
  · subst c
    refine ⟨f, g, ?_⟩
    rw [if_pos rfl, gc_t (qi_in (n := gLen 31) (by omega) (show i < 800 from hi)), gAR_s hi, Option.bind_some, gc_t (qi_in (n := gLen 31) (by omega) (show j < 800 from hj)), gAR_s hj, Option.bind_some, p_compare (gK_s hi) (gK_s hj) gLen_s gLen_s A1 B1]
    unfold cmpP
    rw [cmp_mul a3]
    rfl
  · rw [if_neg (by rw [qi_eq (by omega) (by omega)]; exact c), gc_t (qi_in (n := gLen 31) (by omega) (show i < 800 from hi)), gAR_s hi, Option.bind_some, p_copy (gK_s hi) rfl gLen_s rfl A1, Option.bind_some]
    obtain ⟨f1, e1⟩ := sc_w36 (u := u) (f := f) (g := g) (v := a)
    have W1 : Wv (wr (sc u f g) 36 a) 36 a := wr_v A1.1
    rw [e1] at W1 ⊢
    rw [gc_t (qi_in (n := gLen 32) (by omega) (show j < 800 from hj)), sc_o (by decide) (by decide), b2, p_multiply rfl rfl W1 (by omega), Option.bind_some]
    obtain ⟨f2, e2⟩ := sc_w36 (u := u) (f := f1) (g := g) (v := a * q)
    have W2 : Wv (wr (sc u f1 g) 36 (a * q)) 36 (a * q) := wr_v (big_m a5 (by omega))
    rw [e2] at W2 ⊢
    have B2 := sc_v (f := f2) (g := g) (by omega) (by omega) b1
    rw [gc_t (qi_in (n := gLen 31) (by omega) (show j < 800 from hj)), gAR_s hj, Option.bind_some, p_copy (gK_s hj) rfl gLen_s rfl B2, Option.bind_some]
    obtain ⟨g1, e3⟩ := sc_w37 (u := u) (f := f2) (g := g) (v := b)
    have W3 : Wv (wr (sc u f2 g) 37 b) 37 b := wr_v B2.1
    have W2' : Wv (wr (sc u f2 g) 37 b) 36 (a * q) := wr_b (by decide) W2
    rw [e3] at W3 W2' ⊢
    rw [gc_t (qi_in (n := gLen 32) (by omega) (show i < 800 from hi)), sc_o (by decide) (by decide), a2, p_multiply rfl rfl W3 (by omega), Option.bind_some]
    obtain ⟨g2, e4⟩ := sc_w37 (u := u) (f := f2) (g := g1) (v := b * p)
    have W4 : Wv (wr (sc u f2 g1) 37 (b * p)) 37 (b * p) := wr_v (big_m b5 (by omega))
    have W5 : Wv (wr (sc u f2 g1) 37 (b * p)) 36 (a * q) := wr_b (by decide) W2'
    rw [e4] at W4 W5 ⊢
    refine ⟨f2, g2, ?_⟩
    rw [p_compare rfl rfl rfl rfl W5 W4]
    rfl
theorem p_within {u : gSt} {f g : Nat → Int32} {i a p n d A : Nat} (hi : i < 800) (h1 : Sl u i a p) (hA : Wv u 33 A) (hA2 : A ≤ 2 ^ 200) (hn : n < 2147483648) (hd : d < 2147483648) : ∃ f' g', M_Ranking_isWithin (nI i) (nI n) (nI d) (sc u f g) = some (b2i (decide (a * d ≤ A * p * n)), sc u f' g') := by
  obtain ⟨a1, a2, a3, a4, a5⟩ := h1
  have A1 := sc_v (f := f) (g := g) (by omega) (by omega) a1
  have hAp : A * p ≤ 2 ^ 200 * 200 := Nat.mul_le_mul hA2 a4
  unfold M_Ranking_isWithin M_Ranking_isWithin_b72
  rw [gc_t (qi_in (n := gLen 31) (by omega) (show i < 800 from hi)), qi_ix (by omega), gAR_s hi, Option.bind_some, p_copy (gK_s hi) rfl gLen_s rfl A1, Option.bind_some]
  obtain ⟨f1, e1⟩ := sc_w36 (u := u) (f := f) (g := g) (v := a)
  have W1 : Wv (wr (sc u f g) 36 a) 36 a := wr_v A1.1
  rw [e1] at W1 ⊢
  rw [p_multiply rfl rfl W1 hd, Option.bind_some]
  obtain ⟨f2, e2⟩ := sc_w36 (u := u) (f := f1) (g := g) (v := a * d)
  have W2 : Wv (wr (sc u f1 g) 36 (a * d)) 36 (a * d) := wr_v (big_m a5 hd)
  rw [e2] at W2 ⊢
  have B2 := sc_v (f := f2) (g := g) (by decide) (by decide) hA
  rw [p_copy (a := 33) (b := 37) rfl rfl rfl rfl B2, Option.bind_some]
  obtain ⟨g1, e3⟩ := sc_w37 (u := u) (f := f2) (g := g) (v := A)
  have W3 : Wv (wr (sc u f2 g) 37 A) 37 A := wr_v B2.1
  have W2' : Wv (wr (sc u f2 g) 37 A) 36 (a * d) := wr_b (by decide) W2
  rw [e3] at W3 W2' ⊢
  rw [gc_t (qi_in (n := gLen 32) (by omega) (show i < 800 from hi)), sc_o (by decide) (by decide), a2, p_multiply rfl rfl W3 (by omega), Option.bind_some]
  obtain ⟨g2, e4⟩ := sc_w37 (u := u) (f := f2) (g := g1) (v := A * p)
  have W4 : Wv (wr (sc u f2 g1) 37 (A * p)) 37 (A * p) := wr_v (Nat.lt_of_le_of_lt hAp (by decide))
  have W5 : Wv (wr (sc u f2 g1) 37 (A * p)) 36 (a * d) := wr_b (by decide) W2'
  rw [e4] at W4 W5 ⊢
  rw [p_multiply rfl rfl W4 hn, Option.bind_some]
  obtain ⟨g3, e5⟩ := sc_w37 (u := u) (f := f2) (g := g2) (v := A * p * n)
  have W6 : Wv (wr (sc u f2 g2) 37 (A * p * n)) 37 (A * p * n) := wr_v (big_m hAp hn)
  have W7 : Wv (wr (sc u f2 g2) 37 (A * p * n)) 36 (a * d) := wr_b (by decide) W5
  rw [e5] at W6 W7 ⊢
  refine ⟨f2, g3, ?_⟩
  rw [p_compare rfl rfl rfl rfl W7 W6, Option.bind_some]
  show (if (0 : Int32) < cmp (a * d) (A * p * n) then _ else _) = _
  by_cases c1 : a * d ≤ A * p * n
  · rw [decide_eq_true c1, if_neg (by rw [cmp_pos]; omega)]
    rfl
  · rw [decide_eq_false c1, if_pos (cmp_pos.mpr (by omega))]
    rfl
