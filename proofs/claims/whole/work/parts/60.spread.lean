/-! The model's spread. -/
def b2i (b : Bool) : Int32 := if b then 1 else 0
/-- one of P x, P (x + 1), .. of d of them -/
def anyR (P : Nat → Bool) : Nat → Nat → Bool
  | _, 0 => false
  | x, d + 1 => P x || anyR P (x + 1) d
theorem anyR_iff {P : Nat → Bool} : ∀ (d x : Nat), anyR P x d = true ↔ ∃ y, x ≤ y ∧ y < x + d ∧ P y = true
  | 0, x => by
    constructor
    · intro h
      cases h
    · rintro ⟨y, h1, h2, -⟩
      omega
  | d + 1, x => by
    unfold anyR
    rw [Bool.or_eq_true, anyR_iff d (x + 1)]
    constructor
    · rintro (h | ⟨y, h1, h2, h3⟩)
      · exact ⟨x, Nat.le_refl _, by omega, h⟩
      · exact ⟨y, by omega, by omega, h3⟩
    · rintro ⟨y, h1, h2, h3⟩
      by_cases e : y = x
      · subst e
        exact Or.inl h3
      · exact Or.inr ⟨y, by omega, by omega, h3⟩
/-- the model's table a has (x, y) -/
def mb (u : gSt) (a x y : Nat) : Bool := decide (u.2.2.1 a (200 * x + y) ≠ 0)
theorem mb_f {u : gSt} {a x y : Nat} : (u.2.2.1 a (200 * x + y) = 0) ↔ mb u a x y = false := by
  unfold mb
  constructor
  · intro h
    exact decide_eq_false (fun h2 => h2 h)
  · intro h
    exact Decidable.of_not_not (of_decide_eq_false h)
theorem mb_t {u : gSt} {a x y : Nat} (h : ¬ u.2.2.1 a (200 * x + y) = 0) : mb u a x y = true := decide_eq_true h
theorem p_200 {x y : Nat} : (200 : Int32) * nI x + nI y = nI (200 * x + y) := by
  rw [show (200 : Int32) = nI 200 from rfl, qi_mul, qi_add]
/-- the gene g is at the term y by a term below it -/
def atP (u : gSt) (g y x : Nat) : Bool := mb u 52 g x && mb u 51 x y
def atV (u : gSt) (t g y : Nat) : Bool := mb u 52 g y || anyR (atP u g y) 0 t
theorem sp_in {u : gSt} {t g y : Nat} (ht : t ≤ 200) (hg : g < 200) (hy : y < 200) (h1 : u.1 42 11 = nI t) : ∀ (d x : Nat) (fl : Bool), x + d = t → gLp M_Model_spread_L49 (nI g, nI y, b2i fl, nI x, u) = some (nI g, nI y, b2i (fl || anyR (atP u g y) x d), u)
  | 0, x, fl, h => by
    refine gLp_done ?_
    show M_Model_spread_b49 (nI g) (nI y) (b2i fl) (nI x) u = _
    unfold M_Model_spread_b49
    rw [h1, if_pos ((qi_le (by omega) (by omega)).mpr (by omega))]
    unfold anyR
    rw [Bool.or_false]
  | d + 1, x, true, h => by
    refine gLp_done ?_
    show M_Model_spread_b49 (nI g) (nI y) 1 (nI x) u = _
    unfold M_Model_spread_b49
    rw [h1, if_neg (by rw [qi_le (by omega) (by omega)]; omega), if_neg (by decide)]
    rfl
  | d + 1, x, false, h => by
    have hs : M_Model_spread_L49 (nI g, nI y, b2i false, nI x, u) = some (.inl (nI g, nI y, b2i (atP u g y x), nI (x + 1), u)) := by
      show M_Model_spread_b49 (nI g) (nI y) 0 (nI x) u = _
      unfold M_Model_spread_b49 M_Model_spread_b98 M_Model_spread_b99
      rw [h1, if_neg (by rw [qi_le (by omega) (by omega)]; omega), if_pos rfl, p_200, gc_t (qi_in (n := gLen 52) (by omega) (show 200 * g + x < 40000 by omega)), qi_ix (by omega), p_200, gc_t (qi_in (n := gLen 51) (by omega) (show 200 * x + y < 40000 by omega)), qi_ix (by omega), show (1 : Int32) = nI 1 from rfl, qi_add]
      unfold atP
      by_cases c1 : u.2.2.1 52 (200 * g + x) = 0
      · rw [if_pos c1, mb_f.mp c1]
        rfl
      · rw [if_neg c1, mb_t c1]
        by_cases c2 : u.2.2.1 51 (200 * x + y) = 0
        · rw [if_pos c2, mb_f.mp c2]
          rfl
        · rw [if_neg c2, mb_t c2]
          rfl
    rw [gLp_next hs, sp_in ht hg hy h1 d (x + 1) (atP u g y x) (by omega)]
    rfl
theorem b2i_z {b : Bool} : gZ (b2i b) = true := by cases b <;> rfl
/-- the row g of the table 53, its first y columns, as reckoned -/
def sp_row (u : gSt) (t g y : Nat) : gSt := gsR u 53 (fun i => if 200 * g ≤ i ∧ i < 200 * g + y then b2i (atV u t g (i - 200 * g)) else u.2.2.1 53 i)
theorem sp_mid {u : gSt} {t g : Nat} (ht : t ≤ 200) (hg : g < 200) (h1 : u.1 42 11 = nI t) (h2 : ∀ i, i < 40000 → u.2.2.1 52 i = 0 ∨ u.2.2.1 52 i = 1) : gLp M_Model_spread_L25 (nI g, (0 : Int32), u) = some (nI g, sp_row u t g t) := by
  have e0 : (nI g, (0 : Int32), u) = (fun y => (nI g, nI y, sp_row u t g y)) 0 := by
    show _ = (nI g, nI 0, sp_row u t g 0)
    unfold sp_row
    rw [gsR_0]
    · rfl
    · funext i
      rw [if_neg (by omega)]
  rw [e0]
  refine lp_to (S := fun y => (nI g, nI y, sp_row u t g y)) (N := t) (Nat.zero_le _) (fun y _ hy => ?_) ?_
  · show M_Model_spread_b25 (nI g) (nI y) (sp_row u t g y) = some (Sum.inl (nI g, nI (y + 1), sp_row u t g (y + 1)))
    unfold M_Model_spread_b25
    have w1 : (sp_row u t g y).1 42 11 = nI t := h1
    have w2 : (sp_row u t g y).2.2.1 52 (200 * g + y) = b2i (mb u 52 g y) := by
      show u.2.2.1 52 (200 * g + y) = _
      rcases h2 (200 * g + y) (by omega) with h | h
      · rw [mb_f.mp h, h]
        rfl
      · rw [mb_t (by rw [h]; decide), h]
        rfl
    have w3 : anyR (atP (sp_row u t g y) g y) 0 t = anyR (atP u g y) 0 t := rfl
    rw [w1, if_neg (by rw [qi_le (by omega) (by omega)]; omega), p_200, gc_t (qi_in (n := gLen 52) (by omega) (show 200 * g + y < 40000 by omega)), qi_ix (by omega), w2]
    have w4 := sp_in (u := sp_row u t g y) (t := t) (g := g) (y := y) ht hg (by omega) w1 t 0 (mb u 52 g y) (by omega)
    rw [show (0 : Int32) = nI 0 from rfl, w4, Option.bind_some, p_200, gc_t (qi_in (n := gLen 53) (by omega) (show 200 * g + y < 40000 by omega)), gc_t b2i_z, Option.bind_some, qi_ix (by omega), w3, gsA_R]
    unfold sp_row
    rw [gsR_R, show (1 : Int32) = nI 1 from rfl, qi_add]
    refine congrArg (fun f => some (Sum.inl (nI g, nI (y + 1), gsR u 53 f))) ?_
    funext i
    show (if i = 200 * g + y then b2i (atV u t g y) else (if 200 * g ≤ i ∧ i < 200 * g + y then b2i (atV u t g (i - 200 * g)) else u.2.2.1 53 i)) = _
    by_cases c : i = 200 * g + y
    · subst c
      rw [if_pos rfl, if_pos (by omega), show 200 * g + y - 200 * g = y by omega]
    · rw [if_neg c]
      by_cases c2 : 200 * g ≤ i ∧ i < 200 * g + y
      · rw [if_pos c2, if_pos (by omega)]
      · rw [if_neg c2, if_neg (by omega)]
  · show M_Model_spread_b25 (nI g) (nI t) (sp_row u t g t) = _
    unfold M_Model_spread_b25
    rw [show (sp_row u t g t).1 42 11 = nI t from h1, if_pos ((qi_le (by omega) (by omega)).mpr (Nat.le_refl _))]
/-- the first n rows of the table 53 as reckoned -/
def sp_all (u : gSt) (t n : Nat) : gSt := gsR u 53 (fun i => if i / 200 < n ∧ i % 200 < t then b2i (atV u t (i / 200) (i % 200)) else u.2.2.1 53 i)
theorem sp_out {u : gSt} {t n : Nat} (ht : t ≤ 200) (hn : n ≤ 200) (h1 : u.1 42 11 = nI t) (h3 : u.1 42 10 = nI n) (h2 : ∀ i, i < 40000 → u.2.2.1 52 i = 0 ∨ u.2.2.1 52 i = 1) : gLp M_Model_spread_L15 ((0 : Int32), u) = some (sp_all u t n) := by
  have e0 : ((0 : Int32), u) = (fun g => (nI g, sp_all u t g)) 0 := by
    show _ = (nI 0, sp_all u t 0)
    unfold sp_all
    rw [gsR_0]
    · rfl
    · funext i
      rw [if_neg (by omega)]
  rw [e0]
  refine lp_to (S := fun g => (nI g, sp_all u t g)) (N := n) (Nat.zero_le _) (fun g _ hg => ?_) ?_
  · show M_Model_spread_b15 (nI g) (sp_all u t g) = some (Sum.inl (nI (g + 1), sp_all u t (g + 1)))
    unfold M_Model_spread_b15
    rw [show (sp_all u t g).1 42 10 = nI n from h3, if_neg (by rw [qi_le (by omega) (by omega)]; omega), sp_mid (u := sp_all u t g) (t := t) ht (by omega) h1 h2, Option.bind_some]
    show some (Sum.inl (nI g + nI 1, sp_row (sp_all u t g) t g t)) = _
    rw [qi_add]
    unfold sp_row sp_all
    rw [gsR_R]
    refine congrArg (fun f => some (Sum.inl (nI (g + 1), gsR u 53 f))) ?_
    funext i
    show (if 200 * g ≤ i ∧ i < 200 * g + t then b2i (atV u t g (i - 200 * g)) else (if i / 200 < g ∧ i % 200 < t then b2i (atV u t (i / 200) (i % 200)) else u.2.2.1 53 i)) = _
    by_cases c : 200 * g ≤ i ∧ i < 200 * g + t
    · have c1 : i / 200 = g := by omega
      have c2 : i % 200 = i - 200 * g := by omega
      rw [if_pos c, if_pos (by omega), c1, c2]
    · rw [if_neg c]
      by_cases c2 : i / 200 < g ∧ i % 200 < t
      · rw [if_pos c2, if_pos (by omega)]
      · rw [if_neg c2, if_neg (by omega)]
  · show M_Model_spread_b15 (nI n) (sp_all u t n) = _
    unfold M_Model_spread_b15
    rw [show (sp_all u t n).1 42 10 = nI n from h3, if_pos ((qi_le (by omega) (by omega)).mpr (Nat.le_refl _))]
theorem p_spread0 {u : gSt} {t n : Nat} (ht : t ≤ 200) (hn : n ≤ 200) (h1 : u.1 42 11 = nI t) (h3 : u.1 42 10 = nI n) (h2 : ∀ i, i < 40000 → u.2.2.1 52 i = 0 ∨ u.2.2.1 52 i = 1) (hk : u.1 42 17 = 0) : M_Model_spread u = some (sp_all (gsF u 42 17 1) t n) := by
  unfold M_Model_spread
  rw [if_pos hk, Option.bind_some, sp_out (u := gsF u 42 17 1) ht hn h1 h3 h2]
  rfl
theorem p_spread1 {u : gSt} (hk : ¬ u.1 42 17 = 0) : M_Model_spread u = some u := by
  unfold M_Model_spread
  rw [if_neg hk]
