/-! The model's rate. -/
def St (u v : gSt) (s : GS) : Prop := FQ u v ∧ Mg v s ∧ Lc v s (z_m s)
theorem St_T {u v w : gSt} {s : GS} {i : Nat} (h : St u v s) (f : FT i v w) : St u w s := ⟨FQ_t h.1 (FQ_T f), Mg_T f h.2.1, Lc_T f h.2.2⟩
/-- the four values of the place i before the last way back -/
def V4 (v : gSt) (s : GS) (i : Nat) : Prop := Ts v (4 * i) (z_x s (z_b s i)) 1 ∧ Ts v (4 * i + 1) (capN (z_x s (z_b s i)) (z_A s) (z_m s) 1) 1 ∧ Ts v (4 * i + 2) (v2 s i) 1 ∧ Ts v (4 * i + 3) (c3N s i) (c3D s i)
theorem V4_T {v w : gSt} {s : GS} {i k : Nat} (f : FT k v w) (hk : k / 4 ≠ i) (h : V4 v s i) : V4 w s i := ⟨f.2.2.2.2.1 _ _ _ (by omega) h.1, f.2.2.2.2.1 _ _ _ (by omega) h.2.1, f.2.2.2.2.1 _ _ _ (by omega) h.2.2.1, f.2.2.2.2.1 _ _ _ (by omega) h.2.2.2⟩
theorem cap_11 (s : GS) (c : Nat) : capN (z_x s c) (z_A s) 1 1 = z_x s c := by
  unfold capN
  have := z_x_le s c
  split <;> omega
theorem v2_200 {s : GS} (hs : Gd s) {j : Nat} (h : j < z_m s) : v2 s j ≤ 2 ^ 200 * 200 := Nat.le_trans (Nat.le_trans (v2_ok hs j h).2 (z_A_le hs)) (by decide)
theorem cap_200 {s : GS} (hs : Gd s) {c t : Nat} : capN (z_x s c) (z_A s) t 1 ≤ 2 ^ 200 * 200 := by
  have h2 := z_A_le hs
  have : capN (z_x s c) (z_A s) t 1 ≤ z_A s := by
    unfold capN
    split <;> omega
  exact Nat.le_trans (Nat.le_trans this h2) (by decide)
theorem r_rate1 {u v : gSt} {s : GS} {j : Nat} (hs : Gd s) (hj : j < z_m s) (h : St u v s) (hv : ∀ i, i < j → V4 v s i) : ∃ w, M_Model_rate_b2 (nI j) v = some (.inl (nI (j + 1), w)) ∧ St u w s ∧ ∀ i, i < j + 1 → V4 w s i := by
  have hm := z_m_le hs
  obtain ⟨q0, w0, a0, b0, f0, t0⟩ := r_put (kd := 0) (by_ := 1) (ov := 1) hs h.2.2 hj (by decide) (by decide) (by decide)
  have h0 := St_T h f0
  rw [cap_11, capD_1] at t0
  obtain ⟨q1, w1, a1, b1, f1, t1⟩ := r_put (kd := 1) (by_ := z_m s) (ov := 1) hs h0.2.2 hj (by decide) hm (by decide)
  have h1 := St_T h0 f1
  rw [capD_1] at t1
  obtain ⟨q2, w2, a2, b2, f2, t2⟩ := r_put (kd := 2) (by_ := z_m s - j) (ov := 1) hs h1.2.2 hj (by decide) (by omega) (by decide)
  have h2 := St_T h1 f2
  rw [capD_1] at t2
  have t0' := f2.2.2.2.2.1 _ _ _ (by omega) (f1.2.2.2.2.1 _ _ _ (by omega) t0)
  have t1' := f2.2.2.2.2.1 _ _ _ (by omega) t1
  have hv2 : ∀ i, i < j → V4 w2 s i := fun i hi => V4_T f2 (by omega) (V4_T f1 (by omega) (V4_T f0 (by omega) (hv i hi)))
  -- the last value, from any state where the third stands
  have last : ∀ x, St u x s → (∀ i, i < j → V4 x s i) → Ts x (4 * j) (z_x s (z_b s j)) 1 → Ts x (4 * j + 1) (capN (z_x s (z_b s j)) (z_A s) (z_m s) 1) 1 → Ts x (4 * j + 2) (v2 s j) 1 → ∃ w, M_Model_rate_b92 (nI j) x = some (.inl (nI (j + 1), w)) ∧ St u w s ∧ ∀ i, i < j + 1 → V4 w s i := fun x hx hvx s0 s1 s2 => by
    obtain ⟨q3, w3', a3, b3, f3, t3⟩ := r_put (kd := 3) (by_ := z_m s) (ov := j + 1) hs hx.2.2 hj (by decide) hm (by omega)
    refine ⟨w3', ?_, St_T hx f3, fun i hi => ?_⟩
    · unfold M_Model_rate_b92
      rw [hx.2.2.1, show (1 : Int32) = nI 1 from rfl, qi_add, a3, Option.bind_some, show (3 : Int32) = nI 3 from rfl, b3, Option.bind_some]
    · by_cases c : i = j
      · subst c
        exact ⟨f3.2.2.2.2.1 _ _ _ (by omega) s0, f3.2.2.2.2.1 _ _ _ (by omega) s1, f3.2.2.2.2.1 _ _ _ (by omega) s2, t3⟩
      · exact V4_T f3 (by omega) (hvx i (by omega))
  have hun : M_Model_rate_b2 (nI j) v = if nI j ≤ (0 : Int32) then M_Model_rate_b92 (nI j) w2 else ((M_Model_compare ((4 : Int32) * nI j + (2 : Int32)) ((4 : Int32) * nI j - (2 : Int32)) w2).bind fun q72 => if (0 : Int32) ≤ q72.1 then M_Model_rate_b92 (nI j) q72.2 else ((M_Model_copyValue ((4 : Int32) * nI j + (2 : Int32)) ((4 : Int32) * nI j - (2 : Int32)) q72.2).bind fun q89 => M_Model_rate_b92 (nI j) q89)) := by
    unfold M_Model_rate_b2
    rw [h.2.2.1, if_neg (by rw [qi_le (by omega) (by omega)]; omega)]
    show ((M_Model_value (nI j) (nI 1) (nI 1) v).bind _) = _
    rw [a0, Option.bind_some]
    show ((M_Model_keep (nI j) (nI 0) q0.1 q0.2).bind _) = _
    rw [b0, Option.bind_some, h0.2.2.1]
    show ((M_Model_value (nI j) (nI (z_m s)) (nI 1) w0).bind _) = _
    rw [a1, Option.bind_some]
    show ((M_Model_keep (nI j) (nI 1) q1.1 q1.2).bind _) = _
    rw [b1, Option.bind_some, h1.2.2.1, pk_sub (by omega)]
    show ((M_Model_value (nI j) (nI (z_m s - j)) (nI 1) w1).bind _) = _
    rw [a2, Option.bind_some]
    show ((M_Model_keep (nI j) (nI 2) q2.1 q2.2).bind _) = _
    rw [b2, Option.bind_some]
  rw [hun]
  by_cases c0 : j = 0
  · subst c0
    rw [if_pos (by decide)]
    exact last w2 h2 hv2 t0' t1' t2
  · obtain ⟨i, rfl⟩ : ∃ i, j = i + 1 := ⟨j - 1, by omega⟩
    have tp : Ts w2 (4 * i + 2) (v2 s i) 1 := (hv2 i (by omega)).2.2.1
    rw [if_neg (by rw [qi_le0 (by omega)]; omega), show (4 : Int32) = nI 4 from rfl, qi_mul, show (2 : Int32) = nI 2 from rfl, qi_add, pk_sub (by omega), show 4 * (i + 1) - 2 = 4 * i + 2 by omega]
    obtain ⟨x, ex, fx⟩ := r_compare (v := w2) (a := 4 * (i + 1) + 2) (b := 4 * i + 2) (by omega) (by omega) t2 tp (cap_200 hs) (v2_200 hs (by omega)) (by decide) (by decide)
    have ft : ∀ k, FT k w2 x := fun k => FT_X fx (by decide)
    have hx := St_T h2 (ft 0)
    have hvx : ∀ l, l < i + 1 → V4 x s l := fun l hl => V4_T (ft (4 * (l + 1))) (by omega) (hv2 l hl)
    rw [ex, Option.bind_some, Nat.mul_one, Nat.mul_one]
    by_cases c : v2 s i ≤ capN (z_x s (z_b s (i + 1))) (z_A s) (z_m s - (i + 1)) 1
    · have e2 : v2 s (i + 1) = capN (z_x s (z_b s (i + 1))) (z_A s) (z_m s - (i + 1)) 1 := by
        show (if _ then _ else _) = _
        rw [if_neg (by omega)]
      show ∃ w, (if (0 : Int32) ≤ cmp (capN (z_x s (z_b s (i + 1))) (z_A s) (z_m s - (i + 1)) 1) (v2 s i) then M_Model_rate_b92 (nI (i + 1)) x else _) = _ ∧ _
      rw [if_pos (cmp_nn.mpr c)]
      exact last x hx hvx (Ts_X fx t0') (Ts_X fx t1') (by rw [e2]; exact Ts_X fx t2)
    · have e2 : v2 s (i + 1) = v2 s i := by
        show (if _ then _ else _) = _
        rw [if_pos (by omega)]
      obtain ⟨y, ey, fy, ty⟩ := r_copyV (v := x) (a := 4 * (i + 1) + 2) (b := 4 * i + 2) (by omega) (by omega) (by omega) (Ts_X fx tp)
      show ∃ w, (if (0 : Int32) ≤ cmp (capN (z_x s (z_b s (i + 1))) (z_A s) (z_m s - (i + 1)) 1) (v2 s i) then _ else ((M_Model_copyValue (nI (4 * (i + 1) + 2)) (nI (4 * i + 2)) x).bind fun q89 => M_Model_rate_b92 (nI (i + 1)) q89)) = _ ∧ _
      rw [if_neg (by rw [cmp_nn]; exact c), ey, Option.bind_some]
      exact last y (St_T hx fy) (fun l hl => V4_T fy (by omega) (hvx l hl)) (fy.2.2.2.2.1 _ _ _ (by omega) (Ts_X fx t0')) (fy.2.2.2.2.1 _ _ _ (by omega) (Ts_X fx t1')) (by rw [e2]; exact ty)
/-- the values of the place i, done -/
def Z4 (v : gSt) (s : GS) (i : Nat) : Prop := ∀ k, k < 4 → Ts v (4 * i + k) (zN s k i) (zD s k i)
theorem w3_200 {s : GS} (hs : Gd s) {i : Nat} (h : i < z_m s) : (w3 s i).1 ≤ 2 ^ 200 * 200 := Nat.le_trans (w3_ok hs i h).2.1 (Nat.mul_le_mul (z_A_le hs) (w3_ok hs i h).2.2.2)
theorem c3_200 {s : GS} (hs : Gd s) {i : Nat} (h : i < z_m s) : c3N s i ≤ 2 ^ 200 * 200 := Nat.le_trans (c3_ok hs h).2.1 (Nat.mul_le_mul (z_A_le hs) (c3_ok hs h).2.2.2)
theorem r_rate {u v : gSt} {s : GS} (hs : Gd s) (h : St u v s) : ∃ w, M_Model_rate v = some w ∧ St u w s ∧ ∀ i, i < z_m s → Z4 w s i := by
  have hm := z_m_le hs
  obtain ⟨w, e, hw, vw⟩ := lp_rel (f := M_Model_rate_L2) (Po := fun w : gSt => St u w s ∧ ∀ i, i < z_m s → V4 w s i) (fun j (x : Int32 × gSt) => x.1 = nI j ∧ St u x.2 s ∧ ∀ i, i < j → V4 x.2 s i) (z_m s) 0 (z_m s) (by omega) (fun j x _ hj hx => by
    obtain ⟨x1, y⟩ := x
    obtain ⟨rfl, q1, q2⟩ := hx
    obtain ⟨w, e, h1, h2⟩ := r_rate1 hs hj q1 q2
    exact ⟨(nI (j + 1), w), e, rfl, h1, h2⟩) (fun x hx => by
    obtain ⟨x1, y⟩ := x
    obtain ⟨rfl, q1, q2⟩ := hx
    have q1' : St u y s := q1
    refine ⟨y, ?_, q1, q2⟩
    show M_Model_rate_b2 (nI (z_m s)) y = _
    unfold M_Model_rate_b2
    rw [q1'.2.2.1, if_pos ((qi_le (by omega) (by omega)).mpr (Nat.le_refl _))]) (nI 0, v) ⟨rfl, h, fun i hi => absurd hi (Nat.not_lt_zero _)⟩
  have hun : M_Model_rate v = (gLp M_Model_rate_L123 (nI (z_m s) - (2 : Int32), w)).bind fun y123 => some y123 := by
    unfold M_Model_rate
    show ((gLp M_Model_rate_L2 (nI 0, v)).bind _) = _
    rw [e, Option.bind_some, hw.2.2.1]
  by_cases c0 : z_m s = 0
  · refine ⟨w, ?_, hw, fun i hi => by omega⟩
    rw [hun, c0]
    rw [gLp_done (y := w) (by
      show M_Model_rate_b123 (nI 0 - (2 : Int32)) w = _
      unfold M_Model_rate_b123
      rw [if_pos (by decide)])]
    rfl
  · obtain ⟨z, ez, hz, oz, lz⟩ := lp_rel (f := M_Model_rate_L123) (Po := fun z : gSt => St u z s ∧ (∀ i, i < z_m s → ∀ k, k < 3 → ∀ x p, Ts w (4 * i + k) x p → Ts z (4 * i + k) x p) ∧ ∀ l, l ≤ z_m s - 1 → Ts z (4 * (z_m s - 1 - l) + 3) (w3 s l).1 (w3 s l).2) (fun i (x : Int32 × gSt) => x.1 = upX (z_m s - 1) i ∧ St u x.2 s ∧ (∀ i, i < z_m s → ∀ k, k < 3 → ∀ y p, Ts w (4 * i + k) y p → Ts x.2 (4 * i + k) y p) ∧ (∀ l, l ≤ i → Ts x.2 (4 * (z_m s - 1 - l) + 3) (w3 s l).1 (w3 s l).2) ∧ ∀ j, j < z_m s - 1 - i → Ts x.2 (4 * j + 3) (c3N s j) (c3D s j)) (z_m s - 1) 0 (z_m s - 1) (by omega) (fun i x _ hi hx => by
      obtain ⟨x1, y⟩ := x
      obtain ⟨rfl, q1, q2, q3, q4⟩ := hx
      have q1' : St u y s := q1
      obtain ⟨j, hj⟩ : ∃ j, j = z_m s - 1 - (i + 1) := ⟨_, rfl⟩
      have hjn : z_m s - 1 - i = j + 1 := by omega
      have ti := q3 i (Nat.le_refl _)
      rw [hjn] at ti
      have tj := q4 j (by omega)
      obtain ⟨y2, ec, fc⟩ := r_compare (v := y) (a := 4 * (j + 1) + 3) (b := 4 * j + 3) (by omega) (by omega) ti tj (w3_200 hs (by omega)) (c3_200 hs (by omega)) (w3_ok hs i (by omega)).2.2.2 (c3_ok hs (show j < z_m s by omega)).2.2.2
      have fk : ∀ k, FT k y y2 := fun k => FT_X fc (by decide)
      have hx1 : upX (z_m s - 1) i = nI j := by
        unfold upX
        rw [if_pos hi, show z_m s - 1 - 1 - i = j by omega]
      have hx2 : nI j + (-1 : Int32) = upX (z_m s - 1) (i + 1) := by
        unfold upX
        by_cases c : i + 1 < z_m s - 1
        · rw [if_pos c, qi_m1 (by omega), show j - 1 = z_m s - 1 - 1 - (i + 1) by omega]
        · rw [if_neg c, show j = 0 by omega]
          rfl
      have hun2 : M_Model_rate_b123 (nI j) y = if (0 : Int32) ≤ cmp ((w3 s i).1 * c3D s j) (c3N s j * (w3 s i).2) then some (.inl (upX (z_m s - 1) (i + 1), y2)) else ((M_Model_copyValue (nI (4 * j + 3)) (nI (4 * (j + 1) + 3)) y2).bind fun q157 => some (.inl (upX (z_m s - 1) (i + 1), q157))) := by
        unfold M_Model_rate_b123 M_Model_rate_b160
        rw [if_neg (show ¬ nI j < (0 : Int32) by rw [show (0 : Int32) = nI 0 from rfl, qi_lt (by omega) (by omega)]; omega), show (4 : Int32) = nI 4 from rfl, qi_mul, show (7 : Int32) = nI 7 from rfl, qi_add, show (3 : Int32) = nI 3 from rfl, qi_add, show 4 * j + 7 = 4 * (j + 1) + 3 by omega, ec, Option.bind_some, hx2]
      have w3e : w3 s (i + 1) = if (w3 s i).1 * c3D s j < c3N s j * (w3 s i).2 then w3 s i else (c3N s j, c3D s j) := by
        rw [hj]
        rfl
      have hp : z_m s - 1 - (i + 1) = j := hj.symm
      by_cases c : (w3 s i).1 * c3D s j < c3N s j * (w3 s i).2
      · obtain ⟨y3, ey, fy, ty⟩ := r_copyV (v := y2) (a := 4 * j + 3) (b := 4 * (j + 1) + 3) (by omega) (by omega) (by omega) ((fk 0).2.2.2.2.1 _ _ _ (by omega) ti)
        refine ⟨(upX (z_m s - 1) (i + 1), y3), ?_, rfl, St_T (St_T q1' (fk 0)) fy, fun l hl k hk x p ht => fy.2.2.2.2.1 _ _ _ (by omega) (Ts_X fc (q2 l hl k hk x p ht)), fun l hl => ?_, fun l hl => fy.2.2.2.2.1 _ _ _ (by omega) (Ts_X fc (q4 l (by omega)))⟩
        · show M_Model_rate_b123 (upX (z_m s - 1) i) y = _
          rw [hx1, hun2, if_neg (by rw [cmp_nn]; omega), ey, Option.bind_some]
        · by_cases d : l = i + 1
          · subst d
            rw [hp, w3e, if_pos c]
            exact ty
          · exact fy.2.2.2.2.1 _ _ _ (by omega) (Ts_X fc (q3 l (by omega)))
      · refine ⟨(upX (z_m s - 1) (i + 1), y2), ?_, rfl, St_T q1' (fk 0), fun l hl k hk x p ht => Ts_X fc (q2 l hl k hk x p ht), fun l hl => ?_, fun l hl => Ts_X fc (q4 l (by omega))⟩
        · show M_Model_rate_b123 (upX (z_m s - 1) i) y = _
          rw [hx1, hun2, if_pos (by rw [cmp_nn]; omega)]
        · by_cases d : l = i + 1
          · subst d
            rw [hp, w3e, if_neg c]
            exact Ts_X fc tj
          · exact Ts_X fc (q3 l (by omega))) (fun x hx => by
      obtain ⟨x1, y⟩ := x
      obtain ⟨rfl, q1, q2, q3, q4⟩ := hx
      refine ⟨y, ?_, q1, q2, q3⟩
      have ex : upX (z_m s - 1) (z_m s - 1) = -1 := by
        unfold upX
        rw [if_neg (by omega)]
      show M_Model_rate_b123 (upX (z_m s - 1) (z_m s - 1)) y = _
      unfold M_Model_rate_b123
      rw [ex, if_pos (by decide)]) (upX (z_m s - 1) 0, w) ⟨rfl, hw, fun _ _ _ _ _ _ h => h, fun l hl => by
        obtain rfl : l = 0 := by omega
        have := (vw (z_m s - 1) (by omega)).2.2.2
        exact this, fun j hj => (vw j (by omega)).2.2.2⟩
    refine ⟨z, ?_, hz, fun i hi k hk => ?_⟩
    · have ex : nI (z_m s) - (2 : Int32) = upX (z_m s - 1) 0 := by
        unfold upX
        by_cases c : 0 < z_m s - 1
        · rw [if_pos c, show (2 : Int32) = nI 2 from rfl, pk_sub (by omega), show z_m s - 1 - 1 - 0 = z_m s - 2 by omega]
        · rw [if_neg c, show z_m s = 1 by omega]
          rfl
      rw [hun, ex, ez]
      rfl
    · obtain ⟨g0, g1, g2, g3⟩ := vw i hi
      unfold zN zD
      by_cases c0 : k = 0
      · subst c0
        rw [if_pos rfl, if_pos (by omega)]
        exact oz i hi 0 (by decide) _ _ g0
      · rw [if_neg c0]
        by_cases c1 : k = 1
        · subst c1
          rw [if_pos rfl, if_pos (by omega)]
          exact oz i hi 1 (by decide) _ _ g1
        · rw [if_neg c1]
          by_cases c2 : k = 2
          · subst c2
            rw [if_pos rfl, if_pos (by omega)]
            exact oz i hi 2 (by decide) _ _ g2
          · obtain rfl : k = 3 := by omega
            rw [if_neg (by omega), if_neg (by omega)]
            have h9 := lz (z_m s - 1 - i) (by omega)
            rw [show z_m s - 1 - (z_m s - 1 - i) = i by omega] at h9
            exact h9
