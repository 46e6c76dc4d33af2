/-! Ways up: the model's relaxation. -/
def W_ok (s : GS) (W : Nat → Nat) : Prop := ∀ y, y < s_t s → wy s (W y) y = true
def sm (W : Nat → Nat) : Nat → Nat
  | 0 => 0
  | k + 1 => sm W k + W k
def updN (W : Nat → Nat) (a v : Nat) : Nat → Nat := fun y => if y = a then v else W y
theorem sm_le {W : Nat → Nat} : ∀ (k : Nat), (∀ y, y < k → W y ≤ 199) → sm W k ≤ 199 * k
  | 0, _ => Nat.le_refl _
  | k + 1, h => by
    have h1 := sm_le k (fun y hy => h y (by omega))
    have h2 := h k (by omega)
    unfold sm
    omega
theorem sm_congr {W V : Nat → Nat} : ∀ (k : Nat), (∀ y, y < k → W y = V y) → sm W k = sm V k
  | 0, _ => rfl
  | k + 1, h => by
    unfold sm
    rw [sm_congr k (fun y hy => h y (by omega)), h k (by omega)]
theorem sm_up {W : Nat → Nat} {a v : Nat} (h : W a < v) : ∀ (k : Nat), a < k → sm W k < sm (updN W a v) k
  | 0, h => by omega
  | k + 1, hk => by
    unfold sm
    by_cases e : a = k
    · subst e
      have e1 : sm (updN W a v) a = sm W a := sm_congr a (fun y hy => if_neg (by omega))
      have e2 : updN W a v a = v := if_pos rfl
      rw [e1, e2]
      omega
    · have e1 := sm_up h k (by omega)
      have e2 : updN W a v k = W k := if_neg (by omega)
      rw [e2]
      omega
theorem W_le {s : GS} {W : Nat → Nat} (hs : Gd s) (h : W_ok s W) {y : Nat} (hy : y < s_t s) : W y ≤ 199 := by
  by_cases c : W y ≤ 199
  · exact c
  · have h1 := h y hy
    have h2 := wy_200 hs y
    rw [wy_to (W y - 200) 200 y (by rw [show 200 + (W y - 200) = W y by omega]; exact h1)] at h2
    cases h2
def Fx (s : GS) (W : Nat → Nat) : Prop := ∀ x p, x < s_t s → p < s_t s → s_lk s x p = true → W p < W x
theorem fx_le {s : GS} {W : Nat → Nat} (hf : Fx s W) : ∀ (k x : Nat), x < s_t s → wy s k x = true → k ≤ W x
  | 0, _, _, _ => Nat.zero_le _
  | k + 1, x, hx, h => by
    obtain ⟨p, h1, h2, h3⟩ := wy_iff.mp h
    have h4 := fx_le hf k p h1 h3
    have h5 := hf x p hx h1 h2
    omega
theorem fx_max {s : GS} {W : Nat → Nat} (hf : Fx s W) {x : Nat} (hx : x < s_t s) : wy s (W x + 1) x = false := by
  cases h : wy s (W x + 1) x with
  | false => rfl
  | true =>
    have := fx_le hf (W x + 1) x hx h
    omega
theorem wy_uni {s : GS} {x K J : Nat} (h1 : wy s K x = true) (h2 : wy s (K + 1) x = false) (h3 : wy s J x = true) (h4 : wy s (J + 1) x = false) : K = J := by
  rcases Nat.lt_trichotomy K J with h | h | h
  · rw [wy_to (J - (K + 1)) (K + 1) x (by rw [show K + 1 + (J - (K + 1)) = J by omega]; exact h3)] at h2
    cases h2
  · exact h
  · rw [wy_to (K - (J + 1)) (J + 1) x (by rw [show J + 1 + (K - (J + 1)) = K by omega]; exact h1)] at h4
    cases h4
theorem gsR_a {u : gSt} {r : Nat} {F : Nat → Int32} : (gsR u r F).2.2.1 r = F := if_pos rfl
theorem gsR_b {u : gSt} {r b : Nat} {F : Nat → Int32} (h : b ≠ r) : (gsR u r F).2.2.1 b = u.2.2.1 b := if_neg h
/-- where a pass stands: nothing moved yet and all links looked at are fine, or something rose -/
def ps (s : GS) (W0 W : Nat → Nat) (more : Bool) (a k : Nat) : Prop := (more = false ∧ (∀ y, y < s_t s → W y = W0 y) ∧ (∀ b p, b < a → p < s_t s → s_lk s b p = true → W0 p < W0 b) ∧ ∀ p, p < k → s_lk s a p = true → W0 p < W0 a) ∨ (more = true ∧ sm W0 (s_t s) < sm W (s_t s))
def wz (s : GS) (W : Nat → Nat) (f : Nat → Int32) : Prop := (∀ y, y < s_t s → f y = nI (W y)) ∧ W_ok s W
theorem p_way44 {u : gSt} {s : GS} {W0 W : Nat → Nat} {f : Nat → Int32} {more : Bool} {x1 : Int32} {a : Nat} (hm : Mg u s) (hs : Gd s) (ha : a < s_t s) (hz : wz s W f) (hp : ps s W0 W more a 0) : ∃ W' f' more', gLp M_Model_wayOf_L44 (x1, b2i more, nI a, (0 : Int32), gsR u 65 f) = some (x1, b2i more', nI a, gsR u 65 f') ∧ wz s W' f' ∧ ps s W0 W' more' a (s_t s) := by
  have ht := hs.1
  obtain ⟨m1, m2, m3, m4, m5, -⟩ := hm
  have key := lp_rel (f := M_Model_wayOf_L44) (Po := fun z => ∃ W' f' more', z = (x1, b2i more', nI a, gsR u 65 f') ∧ wz s W' f' ∧ ps s W0 W' more' a (s_t s)) (fun k z => ∃ W' f' more', z = (x1, b2i more', nI a, nI k, gsR u 65 f') ∧ wz s W' f' ∧ ps s W0 W' more' a k) (s_t s) 0 (s_t s) (by omega) ?_ ?_ (x1, b2i more, nI a, (0 : Int32), gsR u 65 f) ⟨W, f, more, rfl, hz, hp⟩
  · obtain ⟨z, e, W', f', more', rfl, h1, h2⟩ := key
    exact ⟨W', f', more', e, h1, h2⟩
  · rintro k z - hk ⟨V, g, mo, rfl, ⟨hz1, hz2⟩, hp⟩
    have la := W_le hs hz2 ha
    have lk := W_le hs hz2 hk
    have hb : M_Model_wayOf_L44 (x1, b2i mo, nI a, nI k, gsR u 65 g) = M_Model_wayOf_b44 x1 (b2i mo) (nI a) (nI k) (gsR u 65 g) := rfl
    rw [hb]
    unfold M_Model_wayOf_b44 M_Model_wayOf_b105
    rw [show (gsR u 65 g).1 42 11 = nI (s_t s) from m1, if_neg (by rw [qi_le (by omega) (by omega)]; omega), p_200, gc_t (qi_in (n := gLen 50) (by omega) (show 200 * a + k < 40000 by omega)), qi_ix (by omega), gsR_b (by decide), m5 a k (by omega) (by omega), gsR_a, gc_t (qi_in (n := gLen 65) (by omega) (show a < 200 by omega)), gc_t (qi_in (n := gLen 65) (by omega) (show k < 200 by omega)), qi_ix (by omega), qi_ix (by omega), hz1 a ha, hz1 k hk]
    have go : ∀ (h : s_lk s a k = true → V k < V a), ps s W0 V mo a (k + 1) := fun h => by
      rcases hp with ⟨q1, q2, q3, q4⟩ | q
      · refine Or.inl ⟨q1, q2, q3, fun p hp9 hl => ?_⟩
        by_cases e : p = k
        · subst e
          rw [← q2 p hk, ← q2 a ha]
          exact h hl
        · exact q4 p (by omega) hl
      · exact Or.inr q
    cases hl : s_lk s a k with
    | false =>
      refine ⟨_, ?_, V, g, mo, rfl, ⟨hz1, hz2⟩, go (fun h9 => by rw [hl] at h9; cases h9)⟩
      rw [if_pos (show b2i false = 0 from rfl)]
      show some (Sum.inl (x1, b2i mo, nI a, nI k + nI 1, _)) = _
      rw [qi_add]
    | true =>
      rw [if_neg (show ¬ b2i true = 0 by decide)]
      by_cases c : V a ≤ V k
      · refine ⟨_, ?_, updN V a (V k + 1), upd g a (nI (V k + 1)), true, rfl, ⟨fun y hy => ?_, fun y hy => ?_⟩, Or.inr ⟨rfl, ?_⟩⟩
        · rw [if_pos ((qi_le (by omega) (by omega)).mpr c), gc_t (qi_in (n := gLen 65) (by omega) (show k < 200 by omega)), gc_t (qi_in (n := gLen 65) (by omega) (show a < 200 by omega)), Option.bind_some, gsA_R, gsR_R, gsR_a]
          show some (Sum.inl (x1, (1 : Int32), nI a, nI k + nI 1, gsR u 65 (upd g a (nI (V k) + nI 1)))) = _
          rw [qi_add, qi_add]
          rfl
        · show (if y = a then nI (V k + 1) else g y) = nI (if y = a then V k + 1 else V y)
          by_cases e : y = a
          · rw [if_pos e, if_pos e]
          · rw [if_neg e, if_neg e]
            exact hz1 y hy
        · show wy s (if y = a then V k + 1 else V y) y = true
          by_cases e : y = a
          · rw [if_pos e, e]
            exact wy_iff.mpr ⟨k, hk, hl, hz2 k hk⟩
          · rw [if_neg e]
            exact hz2 y hy
        · have h1 := sm_up (W := V) (a := a) (v := V k + 1) (by omega) (s_t s) ha
          rcases hp with ⟨q1, q2, -, -⟩ | ⟨-, q⟩
          · rw [← sm_congr (s_t s) q2]
            exact h1
          · omega
      · refine ⟨_, ?_, V, g, mo, rfl, ⟨hz1, hz2⟩, go (fun _ => by omega)⟩
        rw [if_neg (by rw [qi_le (by omega) (by omega)]; exact c)]
        show some (Sum.inl (x1, b2i mo, nI a, nI k + nI 1, _)) = _
        rw [qi_add]
  · rintro z ⟨V, g, mo, rfl, hz9, hp9⟩
    refine ⟨_, ?_, V, g, mo, rfl, hz9, hp9⟩
    show M_Model_wayOf_b44 x1 (b2i mo) (nI a) (nI (s_t s)) (gsR u 65 g) = _
    unfold M_Model_wayOf_b44
    rw [show (gsR u 65 g).1 42 11 = nI (s_t s) from m1, if_pos ((qi_le (by omega) (by omega)).mpr (Nat.le_refl _))]
theorem p_way33 {u : gSt} {s : GS} {W0 : Nat → Nat} {f : Nat → Int32} {x1 : Int32} (hm : Mg u s) (hs : Gd s) (hz : wz s W0 f) : ∃ W' f' more', gLp M_Model_wayOf_L33 (x1, (0 : Int32), (0 : Int32), gsR u 65 f) = some (x1, b2i more', gsR u 65 f') ∧ wz s W' f' ∧ ps s W0 W' more' (s_t s) 0 := by
  have ht := hs.1
  have m1 := hm.1
  have key := lp_rel (f := M_Model_wayOf_L33) (Po := fun z => ∃ W' f' more', z = (x1, b2i more', gsR u 65 f') ∧ wz s W' f' ∧ ps s W0 W' more' (s_t s) 0) (fun a z => ∃ W' f' more', z = (x1, b2i more', nI a, gsR u 65 f') ∧ wz s W' f' ∧ ps s W0 W' more' a 0) (s_t s) 0 (s_t s) (by omega) ?_ ?_ (x1, (0 : Int32), (0 : Int32), gsR u 65 f) ⟨W0, f, false, rfl, hz, Or.inl ⟨rfl, fun _ _ => rfl, fun b p hb => by omega, fun p hp => by omega⟩⟩
  · obtain ⟨z, e, W', f', more', rfl, h1, h2⟩ := key
    exact ⟨W', f', more', e, h1, h2⟩
  · rintro a z - ha ⟨V, g, mo, rfl, hz9, hp9⟩
    obtain ⟨V2, g2, mo2, e, hz8, hp8⟩ := p_way44 (x1 := x1) hm hs ha hz9 hp9
    refine ⟨_, ?_, V2, g2, mo2, rfl, hz8, ?_⟩
    · show M_Model_wayOf_b33 x1 (b2i mo) (nI a) (gsR u 65 g) = _
      unfold M_Model_wayOf_b33
      rw [show (gsR u 65 g).1 42 11 = nI (s_t s) from m1, if_neg (by rw [qi_le (by omega) (by omega)]; omega), e, Option.bind_some]
      show some (Sum.inl (x1, b2i mo2, nI a + nI 1, _)) = _
      rw [qi_add]
    · rcases hp8 with ⟨q1, q2, q3, q4⟩ | q
      · refine Or.inl ⟨q1, q2, fun b p hb hp hl => ?_, fun p hp => by omega⟩
        by_cases e : b = a
        · subst e
          exact q4 p hp hl
        · exact q3 b p (by omega) hp hl
      · exact Or.inr q
  · rintro z ⟨V, g, mo, rfl, hz9, hp9⟩
    refine ⟨_, ?_, V, g, mo, rfl, hz9, hp9⟩
    show M_Model_wayOf_b33 x1 (b2i mo) (nI (s_t s)) (gsR u 65 g) = _
    unfold M_Model_wayOf_b33
    rw [show (gsR u 65 g).1 42 11 = nI (s_t s) from m1, if_pos ((qi_le (by omega) (by omega)).mpr (Nat.le_refl _))]
theorem p_way25 {u : gSt} {s : GS} {x1 : Int32} (hm : Mg u s) (hs : Gd s) : ∀ (m : Nat) (W : Nat → Nat) (f : Nat → Int32), wz s W f → 40000 ≤ m + sm W (s_t s) → ∃ W' f', gLp M_Model_wayOf_L25 (x1, (1 : Int32), gsR u 65 f) = some (x1, gsR u 65 f') ∧ wz s W' f' ∧ Fx s W'
  | 0, W, f, hz, h => by
    have ht := hs.1
    have := sm_le (W := W) (s_t s) (fun y hy => W_le hs hz.2 hy)
    omega
  | m + 1, W, f, hz, h => by
    obtain ⟨V, g, mo, e, hz9, hp9⟩ := p_way33 (x1 := x1) hm hs hz
    have hn : M_Model_wayOf_L25 (x1, (1 : Int32), gsR u 65 f) = some (.inl (x1, b2i mo, gsR u 65 g)) := by
      show M_Model_wayOf_b25 x1 (1 : Int32) (gsR u 65 f) = _
      unfold M_Model_wayOf_b25
      rw [if_neg (by decide), e]
      rfl
    rw [gLp_next hn]
    rcases hp9 with ⟨q1, q2, q3, -⟩ | ⟨q1, q2⟩
    · subst q1
      refine ⟨V, g, gLp_done rfl, hz9, fun x p hx hp hl => ?_⟩
      rw [q2 x hx, q2 p hp]
      exact q3 x p hx hp hl
    · subst q1
      exact p_way25 hm hs m V g hz9 (by omega)
theorem p_wayOf {u : gSt} {s : GS} {x : Nat} (hm : Mg u s) (hs : Gd s) (hx : x < s_t s) : ∃ f K, M_Model_wayOf (nI x) u = some (nI K, gsR u 65 f) ∧ wy s K x = true ∧ wy s (K + 1) x = false := by
  have ht := hs.1
  have m1 := hm.1
  have e0 : (nI x, (0 : Int32), u) = (fun k => (nI x, nI k, gsR u 65 (fun i => if i < k then 0 else u.2.2.1 65 i))) 0 := by
    show _ = (nI x, nI 0, gsR u 65 (fun i => if i < 0 then 0 else u.2.2.1 65 i))
    rw [gsR_0]
    · rfl
    · funext i
      rw [if_neg (by omega)]
  have e2 : gLp M_Model_wayOf_L2 (nI x, (0 : Int32), u) = some (nI x, gsR u 65 (fun i => if i < s_t s then 0 else u.2.2.1 65 i)) := by
    rw [e0]
    refine lp_to (S := fun k => (nI x, nI k, gsR u 65 (fun i => if i < k then 0 else u.2.2.1 65 i))) (N := s_t s) (Nat.zero_le _) (fun k _ hk => ?_) ?_
    · show M_Model_wayOf_b2 (nI x) (nI k) (gsR u 65 (fun i => if i < k then 0 else u.2.2.1 65 i)) = some (Sum.inl (nI x, nI (k + 1), _))
      unfold M_Model_wayOf_b2
      rw [show (gsR u 65 (fun i => if i < k then 0 else u.2.2.1 65 i)).1 42 11 = nI (s_t s) from m1, if_neg (by rw [qi_le (by omega) (by omega)]; omega), gc_t (qi_in (n := gLen 65) (by omega) (show k < 200 by omega)), Option.bind_some, qi_ix (by omega), gsA_R, gsR_R, gsR_a, z_upd]
      show some (Sum.inl (nI x, nI k + nI 1, _)) = _
      rw [qi_add]
    · show M_Model_wayOf_b2 (nI x) (nI (s_t s)) _ = _
      unfold M_Model_wayOf_b2
      rw [show (gsR u 65 (fun i => if i < s_t s then 0 else u.2.2.1 65 i)).1 42 11 = nI (s_t s) from m1, if_pos ((qi_le (by omega) (by omega)).mpr (Nat.le_refl _))]
  obtain ⟨W, f, e3, hz, hf⟩ := p_way25 (x1 := nI x) hm hs 40000 (fun _ => 0) (fun i => if i < s_t s then 0 else u.2.2.1 65 i) ⟨fun y hy => if_pos hy, fun y hy => rfl⟩ (by omega)
  refine ⟨f, W x, ?_, hz.2 x hx, fx_max hf hx⟩
  unfold M_Model_wayOf
  rw [e2, Option.bind_some, e3, Option.bind_some, gc_t (qi_in (n := gLen 65) (by omega) (show x < 200 by omega)), qi_ix (by omega)]
  show some ((gsR u 65 f).2.2.1 65 x, gsR u 65 f) = _
  rw [gsR_a, hz.1 x hx]
