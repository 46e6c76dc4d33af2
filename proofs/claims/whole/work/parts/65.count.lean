/-! Counting bits of grids; what board and model say of terms and genes, as one state. -/
theorem lb_and {x y : Int64} {j : Nat} : lb (x &&& y) j = (lb x j && lb y j) := by
  unfold lb
  rw [Int64.toBitVec_and, BitVec.getLsbD_and]
theorem p_countShared {a r row a' r' row' : Nat} {u : gSt} (h1 : gK a = 5) (h2 : gFR a 0 = some r) (h3 : gK r = 24) (hr : row < 256) (hl : 4 * row + 3 < gLen r) (g1 : gK a' = 5) (g2 : gFR a' 0 = some r') (g3 : gK r' = 24) (gr : row' < 256) (gl : 4 * row' + 3 < gLen r') : M_Grid_countShared a (nI row) a' (nI row') u = some (nI (cnt (fun j => gb u r row j && gb u r' row' j) 256), u) := by
  have k1 : (gK a == 5) = true := by rw [h1]; rfl
  have k2 : (gK r == 24) = true := by rw [h3]; rfl
  have k3 : (gK a' == 5) = true := by rw [g1]; rfl
  have k4 : (gK r' == 24) = true := by rw [g3]; rfl
  have key : gLp M_Grid_countShared_L6 (a, nI row, a', nI row', nI (cnt (fun j => gb u r row j && gb u r' row' j) (64 * 0)), nI 0, u) = some (nI (cnt (fun j => gb u r row j && gb u r' row' j) 256), u) := by
    refine lp_to (S := fun i => (a, nI row, a', nI row', nI (cnt (fun j => gb u r row j && gb u r' row' j) (64 * i)), nI i, u)) (k := 0) (N := 4) (Nat.zero_le _) (fun i _ hi => ?_) ?_
    · show M_Grid_countShared_b6 a (nI row) a' (nI row') (nI (cnt (fun j => gb u r row j && gb u r' row' j) (64 * i))) (nI i) u = some (Sum.inl (a, nI row, a', nI row', nI (cnt (fun j => gb u r row j && gb u r' row' j) (64 * (i + 1))), nI (i + 1), u))
      unfold M_Grid_countShared_b6
      have e1 : nI row * (4 : Int32) + nI i = nI (4 * row + i) := by
        rw [show (4 : Int32) = nI 4 from rfl, qi_mul, qi_add, Nat.mul_comm]
      have e2 : nI row' * (4 : Int32) + nI i = nI (4 * row' + i) := by
        rw [show (4 : Int32) = nI 4 from rfl, qi_mul, qi_add, Nat.mul_comm]
      rw [if_neg (show ¬ (4 : Int32) ≤ nI i by rw [show (4 : Int32) = nI 4 from rfl, qi_le (by omega) (by omega)]; omega), e1, e2, gc_t k1, h2, Option.bind_some, gc_t k2, gc_t (qi_in (by omega) (by omega)), gc_t k3, g2, Option.bind_some, gc_t k4, gc_t (qi_in (by omega) (by omega)), qi_ix (by omega), qi_ix (by omega), p_bitCount, Option.bind_some]
      show some (Sum.inl (a, nI row, a', nI row', nI (cnt (fun j => gb u r row j && gb u r' row' j) (64 * i)) + nI (cnt (lb (u.2.2.2 r (4 * row + i) &&& u.2.2.2 r' (4 * row' + i))) 64), nI i + nI 1, u)) = _
      rw [qi_add, qi_add, show 64 * (i + 1) = 64 * i + 64 by omega, cnt_add, cnt_congr (P := lb _) (Q := fun j => gb u r row (64 * i + j) && gb u r' row' (64 * i + j)) 64 (fun j hj => ?_)]
      show _ = (gb u r row (64 * i + j) && gb u r' row' (64 * i + j))
      unfold gb
      rw [lb_and, show (64 * i + j) / 64 = i by omega, show (64 * i + j) % 64 = j by omega]
    · rfl
  unfold M_Grid_countShared
  have key2 : gLp M_Grid_countShared_L6 (a, nI row, a', nI row', (0 : Int32), (0 : Int32), u) = some (nI (cnt (fun j => gb u r row j && gb u r' row' j) 256), u) := key
  rw [key2]
  rfl
theorem p_count {a r row : Nat} {u : gSt} (h1 : gK a = 5) (h2 : gFR a 0 = some r) (h3 : gK r = 24) (hr : row < 256) (hl : 4 * row + 3 < gLen r) : M_Grid_count a (nI row) u = some (nI (cnt (gb u r row) 256), u) := by
  have k1 : (gK a == 5) = true := by rw [h1]; rfl
  unfold M_Grid_count
  rw [gc_t k1, p_countShared h1 h2 h3 hr hl h1 h2 h3 hr hl]
  have e : (fun j => gb u r row j && gb u r row j) = gb u r row := funext fun j => Bool.and_self _
  rw [e]
  rfl
/-- terms, genes, linked, above, noted (gene, term), old, studied, links, notes -/
abbrev GS : Type := Nat × Nat × (Nat → Nat → Bool) × (Nat → Nat → Bool) × (Nat → Nat → Bool) × (Nat → Bool) × (Nat → Bool) × Nat × Nat
def s_t (s : GS) : Nat := s.1
def s_n (s : GS) : Nat := s.2.1
def s_lk (s : GS) : Nat → Nat → Bool := s.2.2.1
def s_ab (s : GS) : Nat → Nat → Bool := s.2.2.2.1
def s_nt (s : GS) : Nat → Nat → Bool := s.2.2.2.2.1
def s_ol (s : GS) : Nat → Bool := s.2.2.2.2.2.1
def s_st (s : GS) : Nat → Bool := s.2.2.2.2.2.2.1
def s_l (s : GS) : Nat := s.2.2.2.2.2.2.2.1
def s_c (s : GS) : Nat := s.2.2.2.2.2.2.2.2
/-- the gene g is at the term y -/
def s_av (s : GS) (g y : Nat) : Bool := s_nt s g y || anyR (fun x => s_nt s g x && s_ab s x y) 0 (s_t s)
/-- the state is one that can be -/
def Gd (s : GS) : Prop := s_t s ≤ 200 ∧ s_n s ≤ 200 ∧ (∀ x y, s_lk s x y = true → s_ab s x y = true) ∧ (∀ x y, s_ab s x y = true → x < s_t s ∧ y < s_t s) ∧ (∀ x y z, s_ab s x y = true → s_ab s y z = true → s_ab s x z = true) ∧ (∀ x, s_ab s x x = false) ∧ (∀ g y, s_nt s g y = true → g < s_n s ∧ y < s_t s) ∧ (∀ y, s_ol s y = true → y < s_t s) ∧ (∀ g, s_st s g = true → g < s_n s) ∧ s_l s ≤ 600 ∧ s_c s ≤ 2000
/-- the board says it -/
def Dg (u : gSt) (s : GS) : Prop := u.1 4 9 = nI (s_t s) ∧ u.1 9 3 = nI (s_n s) ∧ u.1 4 10 = nI (s_l s) ∧ u.1 4 11 = nI (s_c s) ∧ (∀ x y, x < 200 → y < 256 → gb u 14 x y = s_lk s x y) ∧ (∀ x y, x < 200 → y < 256 → gb u 16 x y = s_ab s x y) ∧ (∀ y g, y < 200 → g < 256 → gb u 18 y g = s_nt s g y) ∧ (∀ y g, y < 200 → g < 256 → gb u 20 y g = s_av s g y) ∧ (∀ y, y < 256 → gb u 22 0 y = s_ol s y) ∧ (∀ g, g < 256 → gb u 24 0 g = s_st s g)
/-- the model says it -/
def Mg (u : gSt) (s : GS) : Prop := u.1 42 11 = nI (s_t s) ∧ u.1 42 10 = nI (s_n s) ∧ u.1 42 18 = nI (s_l s) ∧ u.1 42 19 = nI (s_c s) ∧ (∀ x y, x < 200 → y < 200 → u.2.2.1 50 (200 * x + y) = b2i (s_lk s x y)) ∧ (∀ x y, x < 200 → y < 200 → u.2.2.1 51 (200 * x + y) = b2i (s_ab s x y)) ∧ (∀ g y, g < 200 → y < 200 → u.2.2.1 52 (200 * g + y) = b2i (s_nt s g y)) ∧ (¬ u.1 42 17 = 0 → ∀ g y, g < s_n s → y < s_t s → u.2.2.1 53 (200 * g + y) = b2i (s_av s g y)) ∧ (∀ y, y < s_t s → u.2.2.1 49 y = b2i (s_ol s y)) ∧ (∀ g, g < 200 → u.2.2.1 54 g = b2i (s_st s g)) ∧ u.1 42 21 = nI (cnt (s_st s) (s_n s)) ∧ ∀ g y, g < 200 → y < 200 → s_t s ≤ y → u.2.2.1 53 (200 * g + y) = 0
theorem b2i_0 {b : Bool} : (b2i b = 0) ↔ b = false := by cases b <;> decide
theorem b2i_or {b : Bool} : b2i b = 0 ∨ b2i b = 1 := by cases b <;> decide
theorem anyR_congr {P Q : Nat → Bool} : ∀ (d x : Nat), (∀ y, x ≤ y → y < x + d → P y = Q y) → anyR P x d = anyR Q x d
  | 0, _, _ => rfl
  | d + 1, x, h => by
    unfold anyR
    rw [h x (Nat.le_refl _) (by omega), anyR_congr d (x + 1) (fun y h1 h2 => h y (by omega) (by omega))]
theorem mb_b {u : gSt} {a x y : Nat} {b : Bool} (h : u.2.2.1 a (200 * x + y) = b2i b) : mb u a x y = b := by
  unfold mb
  rw [h]
  cases b <;> decide
theorem Mg_av {u : gSt} {s : GS} (hm : Mg u s) (ht : s_t s ≤ 200) {g y : Nat} (hg : g < 200) (hy : y < 200) : atV u (s_t s) g y = s_av s g y := by
  obtain ⟨-, -, -, -, -, m6, m7, -⟩ := hm
  unfold atV s_av
  rw [mb_b (m7 g y hg hy), anyR_congr (s_t s) 0 (fun x _ hx => ?_)]
  unfold atP
  rw [mb_b (m7 g x hg (by omega)), mb_b (m6 x y (by omega) hy)]
theorem Mg_sp {u : gSt} {s : GS} (hm : Mg u s) (hs : Gd s) : sp_ok u (s_t s) (s_n s) := by
  have hm0 := hm
  obtain ⟨m1, m2, m3, m4, m5, m6, m7, m8, -⟩ := hm
  obtain ⟨h1, h2, -⟩ := hs
  refine ⟨h1, h2, m1, m2, fun i hi => ?_, fun hk g y hg hy => ?_⟩
  · have e := m7 (i / 200) (i % 200) (by omega) (by omega)
    rw [show 200 * (i / 200) + i % 200 = i by omega] at e
    rw [e]
    exact b2i_or
  · rw [m8 hk g y hg hy, Mg_av hm0 h1 (by omega) (by omega)]
theorem sp_F {u : gSt} {t n b j : Nat} (h : b ≠ 42 ∨ j ≠ 17) : (sp u t n).1 b j = u.1 b j := by
  unfold sp
  by_cases hk : u.1 42 17 = 0
  · rw [if_pos hk]
    show (if b = 42 then (if j = 17 then (1 : Int32) else u.1 b j) else u.1 b j) = _
    by_cases h1 : b = 42
    · rw [if_pos h1, if_neg (by omega)]
    · rw [if_neg h1]
  · rw [if_neg hk]
theorem sp_A {u : gSt} {t n b : Nat} (h : b ≠ 53) : (sp u t n).2.2.1 b = u.2.2.1 b := by
  unfold sp
  by_cases hk : u.1 42 17 = 0
  · rw [if_pos hk]
    show (if b = 53 then _ else u.2.2.1 b) = _
    rw [if_neg h]
  · rw [if_neg hk]
theorem sp_17 {u : gSt} {t n : Nat} : ¬ (sp u t n).1 42 17 = 0 := by
  unfold sp
  by_cases hk : u.1 42 17 = 0
  · rw [if_pos hk]
    show ¬ (1 : Int32) = 0
    decide
  · rw [if_neg hk]
    exact hk
theorem sp_sp {u : gSt} {t n : Nat} : sp (sp u t n) t n = sp u t n := by
  have h := sp_17 (u := u) (t := t) (n := n)
  generalize sp u t n = v at h ⊢
  unfold sp
  rw [if_neg h]
theorem sp_o {u : gSt} {t n g y : Nat} (hy : y < 200) (h : t ≤ y) : (sp u t n).2.2.1 53 (200 * g + y) = u.2.2.1 53 (200 * g + y) := by
  unfold sp
  by_cases hk : u.1 42 17 = 0
  · rw [if_pos hk]
    show (if (200 * g + y) / 200 < n ∧ (200 * g + y) % 200 < t then b2i (atV u t ((200 * g + y) / 200) ((200 * g + y) % 200)) else u.2.2.1 53 (200 * g + y)) = _
    rw [if_neg (by omega)]
  · rw [if_neg hk]
theorem Mg_after {u : gSt} {s : GS} (hm : Mg u s) (hs : Gd s) : Mg (sp u (s_t s) (s_n s)) s := by
  have ho := Mg_sp hm hs
  have hm0 := hm
  obtain ⟨m1, m2, m3, m4, m5, m6, m7, m8, m9, m10, m11, m12⟩ := hm
  obtain ⟨h1, h2, -⟩ := hs
  refine ⟨?_, ?_, ?_, ?_, ?_, ?_, ?_, fun _ g y hg hy => ?_, ?_, ?_, ?_, fun g y hg hy hy2 => ?_⟩
  · rw [sp_F (by omega)]; exact m1
  · rw [sp_F (by omega)]; exact m2
  · rw [sp_F (by omega)]; exact m3
  · rw [sp_F (by omega)]; exact m4
  · rw [sp_A (by omega)]; exact m5
  · rw [sp_A (by omega)]; exact m6
  · rw [sp_A (by omega)]; exact m7
  · rw [sp_at ho hg hy, Mg_av hm0 h1 (by omega) (by omega)]
  · rw [sp_A (by omega)]; exact m9
  · rw [sp_A (by omega)]; exact m10
  · rw [sp_F (by omega)]; exact m11
  · rw [sp_o hy hy2]; exact m12 g y hg hy hy2
/-- how many genes (of the study) are at y -/
def s_at (s : GS) (fl : Bool) (y : Nat) : Nat := cnt (fun g => s_av s g y && (!fl || s_st s g)) (s_n s)
theorem cnt_step {P : Nat → Bool} {k : Nat} {b : Bool} (h : P k = b) : nI (cnt P k) + b2i b = nI (cnt P (k + 1)) := by
  show _ = nI (cnt P k + (if P k then 1 else 0))
  rw [h]
  cases b
  · show nI (cnt P k) + nI 0 = nI (cnt P k + 0)
    rw [qi_add]
  · show nI (cnt P k) + nI 1 = nI (cnt P k + 1)
    rw [qi_add]
theorem p_genesAt {u : gSt} {s : GS} {y : Nat} {fl : Bool} (hm : Mg u s) (hs : Gd s) (hy : y < s_t s) : M_Model_genesAt (nI y) (b2i fl) u = some (nI (s_at s fl y), sp u (s_t s) (s_n s)) := by
  have ho := Mg_sp hm hs
  have ha := Mg_after hm hs
  have hk := sp_17 (u := u) (t := s_t s) (n := s_n s)
  obtain ⟨h1, h2, -⟩ := hs
  unfold M_Model_genesAt
  rw [p_spread ho, Option.bind_some]
  generalize sp u (s_t s) (s_n s) = v at ha hk ⊢
  obtain ⟨m1, m2, m3, m4, m5, m6, m7, m8, m9, m10, m11⟩ := ha
  unfold s_at
  generalize hQ : (fun g => s_av s g y && (!fl || s_st s g)) = Q
  have hQ' : ∀ g, Q g = (s_av s g y && (!fl || s_st s g)) := fun g => by rw [← hQ]
  have key : gLp M_Model_genesAt_L9 (nI y, b2i fl, nI (cnt Q 0), nI 0, v) = some (nI (cnt Q (s_n s)), v) := by
    refine lp_to (S := fun g => (nI y, b2i fl, nI (cnt Q g), nI g, v)) (k := 0) (N := s_n s) (Nat.zero_le _) (fun g _ hg => ?_) ?_
    · show M_Model_genesAt_b9 (nI y) (b2i fl) (nI (cnt Q g)) (nI g) v = some (Sum.inl (nI y, b2i fl, nI (cnt Q (g + 1)), nI (g + 1), v))
      have fin : ∀ b : Bool, Q g = b → some (Sum.inl (nI y, b2i fl, nI (cnt Q g) + b2i b, nI g + nI 1, v)) = (some (Sum.inl (nI y, b2i fl, nI (cnt Q (g + 1)), nI (g + 1), v)) : Option ((Int32 × Int32 × Int32 × Int32 × gSt) ⊕ (Int32 × gSt))) := fun b hb => by
        rw [cnt_step hb, qi_add]
      unfold M_Model_genesAt_b9 M_Model_genesAt_b49 M_Model_genesAt_b53 M_Model_genesAt_b54
      rw [m2, if_neg (by rw [qi_le (by omega) (by omega)]; omega), p_200, gc_t (qi_in (n := gLen 53) (by omega) (show 200 * g + y < 40000 by omega)), qi_ix (by omega), m8 hk g y hg hy]
      cases hav : s_av s g y with
      | false =>
        rw [if_pos (show b2i false = 0 from rfl)]
        exact fin false (by rw [hQ', hav]; rfl)
      | true =>
        rw [if_neg (show ¬ b2i true = 0 by decide)]
        cases hfl : fl with
        | false =>
          rw [if_pos (show b2i false = 0 from rfl)]
          rw [hfl] at fin
          exact fin true (by rw [hQ', hav, hfl]; rfl)
        | true =>
          rw [hfl] at fin
          rw [if_neg (show ¬ b2i true = 0 by decide), gc_t (qi_in (n := gLen 54) (by omega) (show g < 200 by omega)), qi_ix (by omega), m10 g (by omega)]
          cases hst : s_st s g with
          | false =>
            rw [if_pos (show b2i false = 0 from rfl)]
            exact fin false (by rw [hQ', hav, hfl, hst]; rfl)
          | true =>
            rw [if_neg (show ¬ b2i true = 0 by decide)]
            exact fin true (by rw [hQ', hav, hfl, hst]; rfl)
    · show M_Model_genesAt_b9 (nI y) (b2i fl) (nI (cnt Q (s_n s))) (nI (s_n s)) v = _
      unfold M_Model_genesAt_b9
      rw [m2, if_pos ((qi_le (by omega) (by omega)).mpr (Nat.le_refl _))]
  have key2 : gLp M_Model_genesAt_L9 (nI y, b2i fl, (0 : Int32), (0 : Int32), v) = some (nI (cnt Q (s_n s)), v) := key
  rw [key2]
  rfl
theorem av_lt {s : GS} (hs : Gd s) {g y : Nat} (h : s_av s g y = true) : g < s_n s ∧ y < s_t s := by
  obtain ⟨h1, h2, h3, h4, h5, h6, h7, -⟩ := hs
  unfold s_av at h
  rw [Bool.or_eq_true] at h
  rcases h with h | h
  · exact h7 g y h
  · obtain ⟨x, -, -, hx⟩ := (anyR_iff _ _).mp h
    rw [Bool.and_eq_true] at hx
    exact ⟨(h7 g x hx.1).1, (h4 x y hx.2).2⟩
theorem p_at {u : gSt} {s : GS} {y : Nat} (hd : Dg u s) (hs : Gd s) (hy : y < s_t s) : M_Board_genesAt (nI y) u = some (nI (s_at s false y), u) := by
  have ht := hs.1
  have hn := hs.2.1
  obtain ⟨d1, d2, d3, d4, d5, d6, d7, d8, d9, d10⟩ := hd
  unfold M_Board_genesAt
  rw [p_count (a := 19) (r := 20) rfl rfl rfl (by omega) (show 4 * y + 3 < 800 by omega)]
  show some (nI (cnt (gb u 20 y) 256), u) = _
  rw [cnt_cut (t := s_n s) 256 (by omega) (fun j h1 h2 => ?_)]
  · unfold s_at
    rw [cnt_congr (s_n s) (fun j hj => ?_)]
    show gb u 20 y j = (s_av s j y && (!false || s_st s j))
    rw [d8 y j (by omega) (by omega)]
    cases s_av s j y <;> rfl
  · rw [d8 y j (by omega) h2]
    cases hv : s_av s j y with
    | false => rfl
    | true => exact absurd (av_lt hs hv).1 (by omega)
theorem p_studiedAt {u : gSt} {s : GS} {y : Nat} (hd : Dg u s) (hs : Gd s) (hy : y < s_t s) : M_Board_studiedAt (nI y) u = some (nI (s_at s true y), u) := by
  have ht := hs.1
  have hn := hs.2.1
  obtain ⟨d1, d2, d3, d4, d5, d6, d7, d8, d9, d10⟩ := hd
  unfold M_Board_studiedAt
  have e := p_countShared (a := 19) (r := 20) (row := y) (a' := 23) (r' := 24) (row' := 0) (u := u) rfl rfl rfl (by omega) (show 4 * y + 3 < 800 by omega) rfl rfl rfl (by decide) (by decide)
  have e2 : M_Grid_countShared 19 (nI y) 23 (0 : Int32) u = some (nI (cnt (fun j => gb u 20 y j && gb u 24 0 j) 256), u) := e
  rw [e2]
  show some (nI (cnt (fun j => gb u 20 y j && gb u 24 0 j) 256), u) = _
  rw [cnt_cut (t := s_n s) 256 (by omega) (fun j h1 h2 => ?_)]
  · unfold s_at
    rw [cnt_congr (s_n s) (fun j hj => ?_)]
    show (gb u 20 y j && gb u 24 0 j) = (s_av s j y && (!true || s_st s j))
    rw [d8 y j (by omega) (by omega), d10 j (by omega)]
    cases s_av s j y <;> rfl
  · show (gb u 20 y j && gb u 24 0 j) = false
    rw [d8 y j (by omega) h2]
    cases hv : s_av s j y with
    | false => rfl
    | true => exact absurd (av_lt hs hv).1 (by omega)
theorem p_studied {u : gSt} {s : GS} (hd : Dg u s) (hs : Gd s) : M_Board_studied u = some (nI (cnt (s_st s) (s_n s)), u) := by
  have hn := hs.2.1
  have hst := hs.2.2.2.2.2.2.2.2.1
  obtain ⟨d1, d2, d3, d4, d5, d6, d7, d8, d9, d10⟩ := hd
  unfold M_Board_studied
  have e : M_Grid_count 23 (0 : Int32) u = some (nI (cnt (gb u 24 0) 256), u) := p_count (a := 23) (r := 24) (row := 0) rfl rfl rfl (by decide) (by decide)
  rw [e]
  show some (nI (cnt (gb u 24 0) 256), u) = _
  rw [cnt_cut (t := s_n s) 256 (by omega) (fun j h1 h2 => ?_)]
  · rw [cnt_congr (s_n s) (fun j hj => d10 j (by omega))]
  · rw [d10 j h2]
    cases hv : s_st s j with
    | false => rfl
    | true => exact absurd (hst j hv) (by omega)
/-- the term y is a candidate -/
def s_can (s : GS) (y : Nat) : Bool := !s_ol s y && decide (0 < s_at s true y)
theorem s_at_lt {s : GS} {fl : Bool} {y : Nat} (hs : Gd s) : s_at s fl y ≤ 200 := Nat.le_trans (cnt_le _) hs.2.1
theorem p_isOld {u : gSt} {s : GS} {y : Nat} (hd : Dg u s) (hy : y < 256) : M_Board_isOld (nI y) u = some (b2i (s_ol s y), u) := by
  obtain ⟨d1, d2, d3, d4, d5, d6, d7, d8, d9, d10⟩ := hd
  unfold M_Board_isOld
  have e : M_Grid_has 21 (0 : Int32) (nI y) u = some (if gb u 22 0 y then 1 else 0, u) := p_has (a := 21) (r := 22) (row := 0) rfl rfl rfl (by decide) hy (show 4 * 0 + y / 64 < 4 by omega)
  rw [e, d9 y hy]
  cases s_ol s y <;> rfl
theorem qi_le0 {a : Nat} (h : a < 2147483648) : (nI a ≤ (0 : Int32)) ↔ a = 0 := by
  rw [show (0 : Int32) = nI 0 from rfl, qi_le h (by decide)]
  omega
theorem p_cand {u : gSt} {s : GS} {y : Nat} (hd : Dg u s) (hs : Gd s) (hy : y < s_t s) : M_Board_isCandidate (nI y) u = some (b2i (s_can s y), u) := by
  have ht := hs.1
  have hq := s_at_lt (fl := true) (y := y) hs
  unfold M_Board_isCandidate M_Board_isCandidate_b20 M_Board_isCandidate_b21
  rw [p_isOld hd (by omega), Option.bind_some]
  unfold s_can
  cases s_ol s y with
  | true =>
    rw [if_neg (show ¬ b2i true = 0 by decide)]
    rfl
  | false =>
    rw [if_pos (show b2i false = 0 from rfl), p_studiedAt hd hs hy, Option.bind_some]
    by_cases h0 : s_at s true y = 0
    · rw [if_pos (show nI (s_at s true y) ≤ 0 from (qi_le0 (by omega)).mpr h0), h0]
      rfl
    · rw [if_neg (show ¬ nI (s_at s true y) ≤ 0 by rw [qi_le0 (by omega)]; exact h0), decide_eq_true (show 0 < s_at s true y by omega)]
      rfl
theorem p_mcand {u : gSt} {s : GS} {y : Nat} (hm : Mg u s) (hs : Gd s) (hy : y < s_t s) : ∃ v, (v = u ∨ v = sp u (s_t s) (s_n s)) ∧ M_Model_isCandidate (nI y) u = some (b2i (s_can s y), v) := by
  have ht := hs.1
  have hq := s_at_lt (fl := true) (y := y) hs
  have hg := p_genesAt (fl := true) hm hs hy
  have hg2 : M_Model_genesAt (nI y) (1 : Int32) u = some (nI (s_at s true y), sp u (s_t s) (s_n s)) := hg
  obtain ⟨m1, m2, m3, m4, m5, m6, m7, m8, m9, m10, m11⟩ := hm
  unfold M_Model_isCandidate M_Model_isCandidate_b22 M_Model_isCandidate_b23
  rw [gc_t (qi_in (n := gLen 49) (by omega) (show y < 200 by omega)), qi_ix (by omega), m9 y hy, hg2]
  unfold s_can
  cases s_ol s y with
  | true =>
    refine ⟨u, Or.inl rfl, ?_⟩
    rw [if_neg (show ¬ b2i true = 0 by decide)]
    rfl
  | false =>
    refine ⟨_, Or.inr rfl, ?_⟩
    rw [if_pos (show b2i false = 0 from rfl), Option.bind_some]
    by_cases h0 : s_at s true y = 0
    · rw [if_pos (show nI (s_at s true y) ≤ 0 from (qi_le0 (by omega)).mpr h0), h0]
      rfl
    · rw [if_neg (show ¬ nI (s_at s true y) ≤ 0 by rw [qi_le0 (by omega)]; exact h0), decide_eq_true (show 0 < s_at s true y by omega)]
      rfl
/-- a loop by a relation -/
theorem lp_rel {X Y : Type} {f : X → Option (X ⊕ Y)} {Po : Y → Prop} (R : Nat → X → Prop) : ∀ (d k N : Nat), k + d = N → (∀ j x, k ≤ j → j < N → R j x → ∃ x', f x = some (.inl x') ∧ R (j + 1) x') → (∀ x, R N x → ∃ y, f x = some (.inr y) ∧ Po y) → ∀ x, R k x → ∃ y, gLp f x = some y ∧ Po y
  | 0, k, N, h, _, he, x, hx => by
    obtain rfl : k = N := by omega
    obtain ⟨y, e, hp⟩ := he x hx
    exact ⟨y, gLp_done e, hp⟩
  | d + 1, k, N, h, hs, he, x, hx => by
    obtain ⟨x', e, hr⟩ := hs k x (Nat.le_refl _) (by omega) hx
    rw [gLp_next e]
    exact lp_rel R d (k + 1) N (by omega) (fun j x h1 h2 => hs j x (by omega) h2) he x' hr
