/-! The model's registers as parts of a state; its count of a term's chance. -/
def Rs (u : gSt) (x v : Nat) : Prop := Rd (u.2.2.1 55) (u.2.2.1 56) x v
/-- registers (those of P) and the rest alone have changed -/
def FX (P : Nat → Prop) (u w : gSt) : Prop := (∀ a j, a ≠ 42 ∨ j ≠ 28 → w.1 a j = u.1 a j) ∧ w.2.1 = u.2.1 ∧ (∀ a, a ≠ 55 → a ≠ 56 → w.2.2.1 a = u.2.2.1 a) ∧ w.2.2.2 = u.2.2.2 ∧ ∀ y v, y < 8 → ¬ P y → Rs u y v → Rs w y v
theorem FX_0 {P : Nat → Prop} {u : gSt} : FX P u u := ⟨fun _ _ _ => rfl, rfl, fun _ _ _ => rfl, rfl, fun _ _ _ _ h => h⟩
theorem FX_t {P : Nat → Prop} {u v w : gSt} (h : FX P u v) (k : FX P v w) : FX P u w := ⟨fun a j e => by rw [k.1 a j e, h.1 a j e], by rw [k.2.1, h.2.1], fun a e f => by rw [k.2.2.1 a e f, h.2.2.1 a e f], by rw [k.2.2.2.1, h.2.2.2.1], fun y v e f g => k.2.2.2.2 y v e f (h.2.2.2.2 y v e f g)⟩
theorem FX_m {P Q : Nat → Prop} {u w : gSt} (h : FX P u w) (hi : ∀ y, P y → Q y) : FX Q u w := ⟨h.1, h.2.1, h.2.2.1, h.2.2.2.1, fun y v e f g => h.2.2.2.2 y v e (fun p => f (hi y p)) g⟩
theorem FX_rq {u : gSt} {r : Int32} {D N : Nat → Int32} {x : Nat} (h : Ox (u.2.2.1 55) (u.2.2.1 56) D N x) : FX (fun y => y = x) u (rq u r D N) := by
  refine ⟨fun a j e => gF_o (u := u) (v := r) (by omega), rfl, fun a e f => rg_o e f, rfl, fun y v e f g => ?_⟩
  unfold Rs rq
  rw [rg_D, rg_N]
  exact Rd_o h e f g
theorem Rs_rq {u : gSt} {r : Int32} {D N : Nat → Int32} {x v : Nat} (h : Rd D N x v) : Rs (rq u r D N) x v := by
  unfold Rs rq
  rw [rg_D, rg_N]
  exact h
theorem rg_rq {u : gSt} {D N : Nat → Int32} : rg u D N = rq u (u.1 42 28) D N := by
  unfold rq
  rw [gsF_0 rfl]
theorem r_grow {u : gSt} {x v c m : Nat} (hx : x < 8) (h : Rs u x v) (hc : c < 2 ^ 31) (hm : m < 2 ^ 31) (hb : v * c + m < 32768 ^ 48) : ∃ w, M_Model_grow (nI x) (lN c) (lN m) u = some w ∧ FX (fun y => y = x) u w ∧ Rs w x (v * c + m) := by
  obtain ⟨D, N, e, o, r⟩ := q_grow (u := u) hx h hc hm hb
  rw [rg_0] at e
  exact ⟨_, by rw [e, rg_rq], FX_rq o, Rs_rq r⟩
theorem r_lower {u : gSt} {x v c : Nat} (hx : x < 8) (h : Rs u x v) (h0 : 0 < c) (hc : c < 2 ^ 31) : ∃ w, M_Model_lower (nI x) (nI c) u = some w ∧ FX (fun y => y = x) u w ∧ Rs w x (v / c) ∧ w.1 42 28 = nI (v % c) := by
  obtain ⟨D, N, e, o, r⟩ := q_lower (u := u) hx h h0 hc
  rw [rg_0] at e
  exact ⟨rq u (nI (v % c)) D N, e, FX_rq o, Rs_rq r, gF_a (u := u) (a := 42) (k := 28) (v := nI (v % c))⟩
theorem r_order {u : gSt} {x y v w : Nat} (hx : x < 8) (hy : y < 8) (hv : Rs u x v) (hw : Rs u y w) : M_Model_order (nI x) (nI y) u = some (cmp v w, u) := by
  have := q_order (u := u) hx hy hv hw
  rw [rg_0] at this
  exact this
theorem r_copy {u : gSt} {x y v : Nat} (hx : x < 8) (hy : y < 8) (hne : x ≠ y) (hv : Rs u y v) : ∃ w, M_Model_copyNumber (nI x) (nI y) u = some w ∧ FX (fun y => y = x) u w ∧ Rs w x v := by
  obtain ⟨D, N, e, o, r⟩ := q_copy (u := u) hx hy hne hv
  rw [rg_0] at e
  exact ⟨_, by rw [e, rg_rq], FX_rq o, Rs_rq r⟩
theorem r_set {u : gSt} {x b : Nat} (hx : x < 8) (hb : b ≤ 1) : ∃ w, M_Model_set (nI x) (nI b) u = some w ∧ FX (fun y => y = x) u w ∧ Rs w x b := by
  obtain ⟨D, N, e, o, r⟩ := q_set (u := u) (D := u.2.2.1 55) (N := u.2.2.1 56) hx hb
  rw [rg_0] at e
  exact ⟨_, by rw [e, rg_rq], FX_rq o, Rs_rq r⟩
theorem r_load {u : gSt} {x a fr v : Nat} (hx : x < 8) (h1 : a ≠ 55) (h2 : a ≠ 56) (ha : gK a = 22) (hl : fr + 20 ≤ gLen a) (hf : fr < 100000) (hv : Sv u a fr v) : ∃ w, M_Model_load (nI x) a (nI fr) u = some w ∧ FX (fun y => y = x) u w ∧ Rs w x v := by
  obtain ⟨D, N, e, o, r⟩ := q_load (u := u) (D := u.2.2.1 55) (N := u.2.2.1 56) hx h1 h2 ha hl hf hv
  rw [rg_0] at e
  exact ⟨_, by rw [e, rg_rq], FX_rq o, Rs_rq r⟩
def svA (u : gSt) (a fr v : Nat) : gSt := gsR u a (fun i => if fr ≤ i ∧ i < fr + 20 then nI (v / 32768 ^ (i - fr) % 32768) else u.2.2.1 a i)
theorem rg_R0 {u : gSt} {a : Nat} {f : Nat → Int32} (h1 : a ≠ 55) (h2 : a ≠ 56) : rg (gsR u a f) (u.2.2.1 55) (u.2.2.1 56) = gsR u a f := by
  have e1 : (gsR u a f).2.2.1 55 = u.2.2.1 55 := gsR_b (Ne.symm h1)
  have e2 : (gsR u a f).2.2.1 56 = u.2.2.1 56 := gsR_b (Ne.symm h2)
  rw [← e1, ← e2, rg_0]
theorem r_save {u : gSt} {x a fr v : Nat} (hx : x < 8) (h1 : a ≠ 55) (h2 : a ≠ 56) (ha : gK a = 22) (hl : fr + 20 ≤ gLen a) (hf : fr < 100000) (hv : Rs u x v) : M_Model_save (nI x) a (nI fr) u = some (svA u a fr v) := by
  have := q_save (u := u) hx h1 h2 ha hl hf hv
  rw [rg_0, rg_R0 h1 h2] at this
  exact this
theorem r_add {u : gSt} {x y v w c : Nat} (hx : x < 8) (hy : y < 8) (hne : x ≠ y) (hv : Rs u x v) (hw : Rs u y w) (hc : c < 2 ^ 31) (hb : v + w * c < 32768 ^ 48) : ∃ z, M_Model_addNumber (nI x) (nI y) (nI c) u = some z ∧ FX (fun y => y = x) u z ∧ Rs z x (v + w * c) := by
  obtain ⟨D, N, e, o, r⟩ := q_add9 (u := u) hx hy hne hv hw hc hb
  rw [rg_0] at e
  exact ⟨_, by rw [e, rg_rq], FX_rq o, Rs_rq r⟩
theorem r_choose {u : gSt} {x v k : Nat} (hx : x < 8) (hk : k ≤ v) (hv : v ≤ 200) : ∃ z, M_Model_choose (nI x) (nI v) (nI k) u = some z ∧ FX (fun y => y = x) u z ∧ Rs z x (ch v k) := by
  obtain ⟨r', D, N, e, o, r⟩ := q_choose (u := u) (r := u.1 42 28) (D := u.2.2.1 55) (N := u.2.2.1 56) hx hk hv
  rw [rq_0] at e
  exact ⟨_, e, FX_rq o, Rs_rq r⟩
theorem r_product {u : gSt} {z x y v w : Nat} (hz : z < 8) (hx : x < 8) (hy : y < 8) (hzx : z ≠ x) (hzy : z ≠ y) (hv : Rs u x v) (hw : Rs u y w) (hb : w * v * 32768 + w * 32768 < 32768 ^ 48) : ∃ t, M_Model_product (nI z) (nI x) (nI y) u = some t ∧ FX (fun y => y = z) u t ∧ Rs t z (w * v) := by
  obtain ⟨D, N, e, o, r⟩ := q_product (u := u) hz hx hy hzx hzy hv hw hb
  rw [rg_0] at e
  exact ⟨_, by rw [e, rg_rq], FX_rq o, Rs_rq r⟩
/-- what the model says of the board stays, if its fields and tables stay -/
theorem Mg_F {u w : gSt} {s : GS} (h1 : ∀ j, j = 10 ∨ j = 11 ∨ j = 17 ∨ j = 18 ∨ j = 19 ∨ j = 21 → w.1 42 j = u.1 42 j) (h2 : ∀ a, 49 ≤ a → a ≤ 54 → w.2.2.1 a = u.2.2.1 a) (hm : Mg u s) : Mg w s := by
  unfold Mg at *
  rw [h1 11 (by omega), h1 10 (by omega), h1 18 (by omega), h1 19 (by omega), h1 17 (by omega), h1 21 (by omega), h2 50 (by omega) (by omega), h2 51 (by omega) (by omega), h2 52 (by omega) (by omega), h2 53 (by omega) (by omega), h2 49 (by omega) (by omega), h2 54 (by omega) (by omega)]
  exact hm
theorem Mg_X {P : Nat → Prop} {u w : gSt} {s : GS} (h : FX P u w) (hm : Mg u s) : Mg w s := Mg_F (fun j hj => h.1 42 j (by omega)) (fun a _ _ => h.2.2.1 a (by omega) (by omega)) hm
theorem sp_kn {u : gSt} {t n : Nat} (h : ¬ u.1 42 17 = 0) : sp u t n = u := by
  unfold sp
  rw [if_neg h]
/-- the model has spread, or nothing has changed -/
def FP (P : Nat → Prop) (u w : gSt) : Prop := (∀ a j, a ≠ 42 ∨ (j ≠ 28 ∧ j ≠ 17) → w.1 a j = u.1 a j) ∧ w.2.1 = u.2.1 ∧ (∀ a, a ≠ 53 → a ≠ 55 → a ≠ 56 → w.2.2.1 a = u.2.2.1 a) ∧ w.2.2.2 = u.2.2.2 ∧ ∀ y v, y < 8 → ¬ P y → Rs u y v → Rs w y v
theorem FP_t {P : Nat → Prop} {u v w : gSt} (h : FP P u v) (k : FP P v w) : FP P u w := ⟨fun a j e => by rw [k.1 a j e, h.1 a j e], by rw [k.2.1, h.2.1], fun a e f g => by rw [k.2.2.1 a e f g, h.2.2.1 a e f g], by rw [k.2.2.2.1, h.2.2.2.1], fun y v e f g => k.2.2.2.2 y v e f (h.2.2.2.2 y v e f g)⟩
theorem FP_X {P : Nat → Prop} {u w : gSt} (h : FX P u w) : FP P u w := ⟨fun a j e => h.1 a j (by omega), h.2.1, fun a _ f g => h.2.2.1 a f g, h.2.2.2.1, h.2.2.2.2⟩
theorem FP_m {P Q : Nat → Prop} {u w : gSt} (h : FP P u w) (hi : ∀ y, P y → Q y) : FP Q u w := ⟨h.1, h.2.1, h.2.2.1, h.2.2.2.1, fun y v e f g => h.2.2.2.2 y v e (fun p => f (hi y p)) g⟩
theorem sp_L {u : gSt} {t n : Nat} : (sp u t n).2.1 = u.2.1 ∧ (sp u t n).2.2.2 = u.2.2.2 := by
  unfold sp
  by_cases hk : u.1 42 17 = 0
  · rw [if_pos hk]
    exact ⟨rfl, rfl⟩
  · rw [if_neg hk]
    exact ⟨rfl, rfl⟩
theorem FP_sp {P : Nat → Prop} {u : gSt} {t n : Nat} : FP P u (sp u t n) := by
  refine ⟨fun a j e => sp_F (by omega), sp_L.1, fun a e _ _ => sp_A e, sp_L.2, fun y v _ _ h => ?_⟩
  unfold Rs
  rw [sp_A (by decide), sp_A (by decide)]
  exact h
theorem two400 {a b : Nat} (ha : a ≤ 2 ^ 200) (hb : b ≤ 2 ^ 200) : a * b * 32768 + a * 32768 < 32768 ^ 48 := by
  have h1 : a * b ≤ 2 ^ 200 * 2 ^ 200 := Nat.mul_le_mul ha hb
  have h2 : a * b * 32768 ≤ 2 ^ 200 * 2 ^ 200 * 32768 := Nat.mul_le_mul h1 (Nat.le_refl _)
  have h3 : a * 32768 ≤ 2 ^ 200 * 32768 := Nat.mul_le_mul ha (Nat.le_refl _)
  exact Nat.lt_of_le_of_lt (Nat.add_le_add h2 h3) (by decide)
theorem ch_200 {v k : Nat} (h : v ≤ 200) : ch v k ≤ 2 ^ 200 := Nat.le_trans (ch_two _ _) (Nat.pow_le_pow_right (by decide) h)
theorem r_count1 {v : gSt} {K n N i S : Nat} (h10 : v.1 42 10 = nI N) (h21 : v.1 42 21 = nI n) (hN : N ≤ 200) (hK : K ≤ N) (hn : n ≤ N) (hi : i ≤ K) (hi2 : i ≤ n) (hf : n - i ≤ N - K) (hS : S ≤ 2 ^ 200) (h : Rs v 0 S) : ∃ w, M_Model_count_b20 (nI K) (nI i) v = some (.inl (nI K, nI (i + 1), w)) ∧ FX (fun y => y < 4) v w ∧ Rs w 0 (S + wt K (N - K) n i) := by
  obtain ⟨w1, e1, f1, r1⟩ := r_choose (u := v) (x := 1) (v := K) (k := i) (by decide) hi (by omega)
  obtain ⟨w2, e2, f2, r2⟩ := r_choose (u := w1) (x := 2) (v := N - K) (k := n - i) (by decide) hf (by omega)
  have r1' : Rs w2 1 (ch K i) := f2.2.2.2.2 1 _ (by decide) (by decide) r1
  obtain ⟨w3, e3, f3, r3⟩ := r_product (u := w2) (z := 3) (x := 1) (y := 2) (by decide) (by decide) (by decide) (by decide) (by decide) r1' r2 (two400 (ch_200 (by omega)) (ch_200 (by omega)))
  have r0 : Rs w3 0 S := f3.2.2.2.2 0 _ (by decide) (by decide) (f2.2.2.2.2 0 _ (by decide) (by decide) (f1.2.2.2.2 0 _ (by decide) (by decide) h))
  have hb : ch (N - K) (n - i) * ch K i ≤ 2 ^ 200 * 2 ^ 200 := Nat.mul_le_mul (ch_200 (by omega)) (ch_200 (by omega))
  obtain ⟨w4, e4, f4, r4⟩ := r_add (u := w3) (x := 0) (y := 3) (c := 1) (by decide) (by decide) (by decide) r0 r3 (by decide) (by rw [Nat.mul_one]; exact Nat.lt_of_le_of_lt (Nat.add_le_add hS hb) (by decide))
  rw [Nat.mul_one, Nat.mul_comm] at r4
  refine ⟨w4, ?_, FX_t (FX_m f1 (fun y h => by omega)) (FX_t (FX_m f2 (fun y h => by omega)) (FX_t (FX_m f3 (fun y h => by omega)) (FX_m f4 (fun y h => by omega)))), r4⟩
  have a10 : w1.1 42 10 = nI N := by rw [f1.1 42 10 (by omega), h10]
  have a21 : w1.1 42 21 = nI n := by rw [f1.1 42 21 (by omega), h21]
  unfold M_Model_count_b20
  rw [if_neg (by rw [qi_lt (by omega) (by omega)]; omega), h21, if_neg (by rw [qi_lt (by omega) (by omega)]; omega), show (1 : Int32) = nI 1 from rfl, e1, Option.bind_some, a10, a21, pk_sub (by omega), pk_sub (by omega), show (2 : Int32) = nI 2 from rfl, e2, Option.bind_some, show (3 : Int32) = nI 3 from rfl, e3, Option.bind_some, show (0 : Int32) = nI 0 from rfl, e4, Option.bind_some, qi_add]
theorem r_count {u : gSt} {s : GS} {y : Nat} (hm : Mg u s) (hS : Gd s) (hy : y < s_t s) (h2 : s_at s true y ≤ s_at s false y) (h3 : s_at s true y ≤ z_n s) (h4 : s_at s false y ≤ s_n s) (h5 : z_n s - s_at s true y ≤ s_n s - s_at s false y) : ∃ w, M_Model_count (nI y) u = some w ∧ FP (fun y => y < 4) u w ∧ Mg w s ∧ Rs w 0 (hs (s_n s) (s_at s false y) (z_n s) (s_at s true y)) := by
  have hN := hS.2.1
  have hn := z_n_le s
  have g0 : M_Model_genesAt (nI y) (0 : Int32) u = some (nI (s_at s false y), sp u (s_t s) (s_n s)) := p_genesAt (fl := false) hm hS hy
  have m1 := Mg_after hm hS
  obtain ⟨w1, e1, f1, r1⟩ := r_set (u := sp u (s_t s) (s_n s)) (x := 0) (b := 0) (by decide) (by decide)
  have m2 := Mg_X f1 m1
  have k2 : ¬ w1.1 42 17 = 0 := by rw [f1.1 42 17 (by omega)]; exact sp_17
  have g1 : M_Model_genesAt (nI y) (1 : Int32) w1 = some (nI (s_at s true y), sp w1 (s_t s) (s_n s)) := p_genesAt (fl := true) m2 hS hy
  rw [sp_kn k2] at g1
  generalize s_at s false y = K at *
  generalize s_at s true y = h at *
  obtain ⟨w, e, f, r⟩ := lp_rel (f := M_Model_count_L20) (Po := fun w : gSt => FX (fun y => y < 4) w1 w ∧ Rs w 0 (hs (s_n s) K (z_n s) h)) (fun i (x : Int32 × Int32 × gSt) => x.1 = nI K ∧ x.2.1 = nI i ∧ FX (fun y => y < 4) w1 x.2.2 ∧ Rs x.2.2 0 (sR (wt K (s_n s - K) (z_n s)) h (i - h))) (min K (z_n s) + 1 - h) h (min K (z_n s) + 1) (by omega) (fun i x hi1 hi2 hx => by
    obtain ⟨x1, x2, v⟩ := x
    obtain ⟨rfl, rfl, fx, rx⟩ := hx
    have fx' : FX (fun y => y < 4) w1 v := fx
    have mv := Mg_X fx' m2
    have hle : sR (wt K (s_n s - K) (z_n s)) h (i - h) ≤ 2 ^ 200 := by
      have := ways_le (K := K) (M := s_n s - K) (n := z_n s) (h := h) (d := i - h) (by omega)
      refine Nat.le_trans this (ch_200 (by omega))
    obtain ⟨w, e, f, r⟩ := r_count1 (v := v) (K := K) (n := z_n s) (N := s_n s) (i := i) mv.2.1 mv.2.2.2.2.2.2.2.2.2.2.1 hN h4 hn (by omega) (by omega) (by omega) hle rx
    refine ⟨(nI K, nI (i + 1), w), e, rfl, rfl, FX_t fx' f, ?_⟩
    rw [show i + 1 - h = (i - h) + 1 by omega]
    show Rs w 0 (sR (wt K (s_n s - K) (z_n s)) h (i - h) + wt K (s_n s - K) (z_n s) (h + (i - h)))
    rw [show h + (i - h) = i by omega]
    exact r) (fun x hx => by
    obtain ⟨x1, x2, v⟩ := x
    obtain ⟨rfl, rfl, fx, rx⟩ := hx
    have fx' : FX (fun y => y < 4) w1 v := fx
    have mv := Mg_X fx' m2
    refine ⟨v, ?_, fx', rx⟩
    show M_Model_count_b20 (nI K) (nI (min K (z_n s) + 1)) v = _
    unfold M_Model_count_b20
    by_cases c : K < min K (z_n s) + 1
    · rw [if_pos ((qi_lt (by omega) (by omega)).mpr c)]
    · rw [if_neg (by rw [qi_lt (by omega) (by omega)]; exact c), mv.2.2.2.2.2.2.2.2.2.2.1, if_pos ((qi_lt (by unfold z_n at *; omega) (by omega)).mpr (show cnt (s_st s) (s_n s) < min K (z_n s) + 1 by unfold z_n at *; omega))]) (nI K, nI h, w1) ⟨rfl, rfl, FX_0, by rw [show h - h = 0 by omega]; exact r1⟩
  refine ⟨w, ?_, FP_t FP_sp (FP_X (FX_t (FX_m f1 (fun y h => by omega)) f)), Mg_X f m2, r⟩
  unfold M_Model_count
  rw [g0, Option.bind_some]
  show ((M_Model_set (nI 0) (nI 0) (sp u (s_t s) (s_n s))).bind _) = _
  rw [e1, Option.bind_some, g1, Option.bind_some]
  show ((gLp M_Model_count_L20 (nI K, nI h, w1)).bind fun y20 => some y20) = _
  rw [e]
  rfl
