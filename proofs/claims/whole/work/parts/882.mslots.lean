/-! The model's values: value, keep, compare, copyValue. -/
def Ts (u : gSt) (i x p : Nat) : Prop := Sv u 59 (20 * i) x ∧ u.2.2.1 60 i = nI p
/-- the value i alone has changed, and registers other than ALL -/
def FT (i : Nat) (u w : gSt) : Prop := (∀ a j, a ≠ 42 ∨ j ≠ 28 → w.1 a j = u.1 a j) ∧ w.2.1 = u.2.1 ∧ (∀ a, a ≠ 55 → a ≠ 56 → a ≠ 59 → a ≠ 60 → w.2.2.1 a = u.2.2.1 a) ∧ w.2.2.2 = u.2.2.2 ∧ (∀ k x p, k ≠ i → Ts u k x p → Ts w k x p) ∧ ∀ x, Rs u 4 x → Rs w 4 x
theorem FT_t {i : Nat} {u v w : gSt} (h : FT i u v) (k : FT i v w) : FT i u w := ⟨fun a j e => by rw [k.1 a j e, h.1 a j e], by rw [k.2.1, h.2.1], fun a e f g l => by rw [k.2.2.1 a e f g l, h.2.2.1 a e f g l], by rw [k.2.2.2.1, h.2.2.2.1], fun j x p e g => k.2.2.2.2.1 j x p e (h.2.2.2.2.1 j x p e g), fun x g => k.2.2.2.2.2 x (h.2.2.2.2.2 x g)⟩
theorem Ts_X {P : Nat → Prop} {u w : gSt} {i x p : Nat} (h : FX P u w) (ht : Ts u i x p) : Ts w i x p := ⟨Sv_X h (by decide) (by decide) ht.1, by rw [h.2.2.1 60 (by decide) (by decide)]; exact ht.2⟩
theorem FT_X {P : Nat → Prop} {i : Nat} {u w : gSt} (h : FX P u w) (h4 : ¬ P 4) : FT i u w := ⟨h.1, h.2.1, fun a e f _ _ => h.2.2.1 a e f, h.2.2.2.1, fun k x p _ ht => Ts_X h ht, fun x hx => h.2.2.2.2 4 x (by decide) h4 hx⟩
theorem FQ_T {i : Nat} {u w : gSt} (h : FT i u w) : FQ u w := ⟨fun a j e => h.1 a j (by omega), h.2.1, fun a e => h.2.2.1 a (by omega) (by omega) (by omega) (by omega), h.2.2.2.1⟩
theorem Mg_T {i : Nat} {u w : gSt} {s : GS} (h : FT i u w) (hm : Mg u s) : Mg w s := Mg_F (fun j hj => h.1 42 j (by omega)) (fun a _ _ => h.2.2.1 a (by omega) (by omega) (by omega) (by omega)) hm
theorem Lc_T {i : Nat} {u w : gSt} {s : GS} {c : Nat} (h : FT i u w) (hl : Lc u s c) : Lc w s c := by
  refine ⟨by rw [h.1 42 31 (by omega)]; exact hl.1, h.2.2.2.2.2 _ hl.2.1, fun j hj => ⟨⟨(hl.2.2 j hj).1.1, fun k hk => ?_⟩, ?_⟩⟩
  · rw [h.2.2.1 57 (by decide) (by decide) (by decide) (by decide)]
    exact (hl.2.2 j hj).1.2 k hk
  · rw [h.2.2.1 58 (by decide) (by decide) (by decide) (by decide)]
    exact (hl.2.2 j hj).2
theorem r_grow0 {u : gSt} {x v c : Nat} (hx : x < 8) (h : Rs u x v) (hc : c < 2 ^ 31) (hb : v * c < 32768 ^ 48) : ∃ w, M_Model_grow (nI x) (nI c).toInt64 (0 : Int64) u = some w ∧ FX (fun y => y = x) u w ∧ Rs w x (v * c) := by
  obtain ⟨w, e, f, r⟩ := r_grow (m := 0) hx h hc (by decide) hb
  exact ⟨w, by rw [nI_l hc]; exact e, f, r⟩
theorem big48 {v c : Nat} (hv : v ≤ 2 ^ 200 * 200) (hc : c < 2 ^ 31) : v * c < 32768 ^ 48 := Nat.lt_of_le_of_lt (Nat.mul_le_mul hv (Nat.le_of_lt hc)) (by decide)
theorem r_value {v : gSt} {s : GS} {j by_ ov : Nat} (hs : Gd s) (hl : Lc v s (z_m s)) (hj : j < z_m s) (hb : by_ ≤ 200) (ho : ov ≤ 200) : ∃ w, M_Model_value (nI j) (nI by_) (nI ov) v = some (nI (capD (z_x s (z_b s j)) (z_A s) by_ ov), w) ∧ FX (fun y => y = 5 ∨ y = 6) v w ∧ Rs w 5 (capN (z_x s (z_b s j)) (z_A s) by_ ov) := by
  have hm := z_m_le hs
  have hxl : z_x s (z_b s j) ≤ 2 ^ 200 * 200 := Nat.le_trans (Nat.le_trans (z_x_le s _) (z_A_le hs)) (by decide)
  have hAl : z_A s ≤ 2 ^ 200 * 200 := Nat.le_trans (z_A_le hs) (by decide)
  obtain ⟨w1, e1, f1, r1⟩ := r_load (u := v) (x := 5) (a := 57) (fr := 20 * j) (by decide) (by decide) (by decide) rfl (show 20 * j + 20 ≤ 4000 by omega) (by omega) (hl.2.2 j hj).1
  obtain ⟨w2, e2, f2, r2⟩ := r_grow0 (u := w1) (x := 5) (c := by_) (by decide) r1 (by omega) (big48 hxl (by omega))
  have a2 : Rs w2 4 (z_A s) := f2.2.2.2.2 4 _ (by decide) (by decide) (f1.2.2.2.2 4 _ (by decide) (by decide) hl.2.1)
  obtain ⟨w3, e3, f3, r3⟩ := r_copy (u := w2) (x := 6) (y := 4) (by decide) (by decide) (by decide) a2
  obtain ⟨w4, e4, f4, r4⟩ := r_grow0 (u := w3) (x := 6) (c := ov) (by decide) r3 (by omega) (big48 hAl (by omega))
  have b4 := f4.2.2.2.2 5 _ (by decide) (by decide) (f3.2.2.2.2 5 _ (by decide) (by decide) r2)
  have a4 : Rs w4 4 (z_A s) := f4.2.2.2.2 4 _ (by decide) (by decide) (f3.2.2.2.2 4 _ (by decide) (by decide) a2)
  have e5 := r_order (u := w4) (x := 5) (y := 6) (by decide) (by decide) b4 r4
  obtain ⟨w6, e6, f6, r6⟩ := r_copy (u := w4) (x := 5) (y := 4) (by decide) (by decide) (by decide) a4
  have F4 : FX (fun y => y = 5 ∨ y = 6) v w4 := FX_t (FX_m f1 (fun y h => by omega)) (FX_t (FX_m f2 (fun y h => by omega)) (FX_t (FX_m f3 (fun y h => by omega)) (FX_m f4 (fun y h => by omega))))
  have hun : M_Model_value (nI j) (nI by_) (nI ov) v = if (0 : Int32) ≤ cmp (z_x s (z_b s j) * by_) (z_A s * ov) then some ((1 : Int32), w6) else some (nI ov, w4) := by
    unfold M_Model_value
    rw [show (20 : Int32) = nI 20 from rfl, qi_mul]
    show ((M_Model_load (nI 5) 57 (nI (20 * j)) v).bind _) = _
    rw [e1, Option.bind_some]
    show ((M_Model_grow (nI 5) (nI by_).toInt64 (0 : Int64) w1).bind _) = _
    rw [e2, Option.bind_some]
    show ((M_Model_copyNumber (nI 6) (nI 4) w2).bind _) = _
    rw [e3, Option.bind_some]
    show ((M_Model_grow (nI 6) (nI ov).toInt64 (0 : Int64) w3).bind _) = _
    rw [e4, Option.bind_some]
    show ((M_Model_order (nI 5) (nI 6) w4).bind fun q41 => if (0 : Int32) ≤ q41.1 then ((M_Model_copyNumber (nI 5) (nI 4) q41.2).bind fun q52 => some ((1 : Int32), q52)) else (some (nI ov, q41.2))) = _
    rw [e5, Option.bind_some, e6]
    rfl
  rw [hun]
  unfold capD capN
  by_cases c : z_A s * ov ≤ z_x s (z_b s j) * by_
  · rw [if_pos (cmp_nn.mpr c), if_pos c, if_pos c]
    exact ⟨w6, rfl, FX_t F4 (FX_m f6 (fun y h => by omega)), r6⟩
  · rw [if_neg (by rw [cmp_nn]; exact c), if_neg c, if_neg c]
    exact ⟨w4, rfl, F4, b4⟩
theorem FT_keep {v : gSt} {i x : Nat} {g : Int32} : FT i v (gsR (svA v 59 (20 * i) x) 60 (upd (v.2.2.1 60) i g)) := by
  refine ⟨fun _ _ _ => rfl, rfl, fun a _ _ e f => ?_, rfl, fun k y p hk ht => ⟨Sv_R (by decide) (Sv_n (by omega) ht.1), ?_⟩, fun y hy => Rs_R (by decide) (by decide) (Rs_R (by decide) (by decide) hy)⟩
  · rw [gsR_b f]
    exact gsR_b e
  · rw [gsR_a, pk_un hk]
    exact ht.2
theorem r_keep {v : gSt} {j kd x p : Nat} (hj : j < 200) (hk : kd < 4) (hx : Rs v 5 x) (hb : x < 32768 ^ 20) : ∃ w, M_Model_keep (nI j) (nI kd) (nI p) v = some w ∧ FT (4 * j + kd) v w ∧ Ts w (4 * j + kd) x p := by
  have e3 := r_save (u := v) (x := 5) (a := 59) (fr := 20 * (4 * j + kd)) (by decide) (by decide) (by decide) rfl (show 20 * (4 * j + kd) + 20 ≤ 16000 by omega) (by omega) hx
  refine ⟨gsR (svA v 59 (20 * (4 * j + kd)) x) 60 (upd (v.2.2.1 60) (4 * j + kd) (nI p)), ?_, FT_keep, Sv_R (by decide) (Sv_s hb), by rw [gsR_a]; exact pk_us⟩
  unfold M_Model_keep
  have w60 : (svA v 59 (20 * (4 * j + kd)) x).2.2.1 60 = v.2.2.1 60 := gsR_b (by decide)
  rw [show (4 : Int32) = nI 4 from rfl, qi_mul, qi_add, show (20 : Int32) = nI 20 from rfl, qi_mul, show (5 : Int32) = nI 5 from rfl, e3, Option.bind_some, gc_t (qi_in (n := gLen 60) (by omega) (show 4 * j + kd < 800 by omega)), qi_ix (by omega), gsA_R, w60]
  rfl
theorem cap300 {s : GS} (hs : Gd s) {c t b : Nat} (ht : t ≤ 200) : capN (z_x s c) (z_A s) t b < 32768 ^ 20 := by
  unfold capN
  have h2 := z_A_le hs
  have h1 := Nat.le_trans (z_x_le s c) h2
  split
  · exact Nat.lt_of_le_of_lt h2 (by decide)
  · exact Nat.lt_of_le_of_lt (Nat.mul_le_mul h1 ht) (by decide)
theorem r_put {v : gSt} {s : GS} {j kd by_ ov : Nat} (hs : Gd s) (hl : Lc v s (z_m s)) (hj : j < z_m s) (hk : kd < 4) (hb : by_ ≤ 200) (ho : ov ≤ 200) : ∃ q w, M_Model_value (nI j) (nI by_) (nI ov) v = some q ∧ M_Model_keep (nI j) (nI kd) q.1 q.2 = some w ∧ FT (4 * j + kd) v w ∧ Ts w (4 * j + kd) (capN (z_x s (z_b s j)) (z_A s) by_ ov) (capD (z_x s (z_b s j)) (z_A s) by_ ov) := by
  have hm := z_m_le hs
  obtain ⟨w1, e1, f1, r1⟩ := r_value hs hl hj hb ho
  obtain ⟨w2, e2, f2, t2⟩ := r_keep (v := w1) (j := j) (kd := kd) (p := capD (z_x s (z_b s j)) (z_A s) by_ ov) (by omega) hk r1 (cap300 hs hb)
  exact ⟨_, w2, e1, e2, FT_t (FT_X f1 (by decide)) f2, t2⟩
theorem r_compare {v : gSt} {a b x p y q : Nat} (ha : a < 800) (hb : b < 800) (h1 : Ts v a x p) (h2 : Ts v b y q) (hx : x ≤ 2 ^ 200 * 200) (hy : y ≤ 2 ^ 200 * 200) (hp : p ≤ 200) (hq : q ≤ 200) : ∃ w, M_Model_compare (nI a) (nI b) v = some (cmp (x * q) (y * p), w) ∧ FX (fun y => y = 5 ∨ y = 6) v w := by
  obtain ⟨w1, e1, f1, r1⟩ := r_load (u := v) (x := 5) (a := 59) (fr := 20 * a) (by decide) (by decide) (by decide) rfl (show 20 * a + 20 ≤ 16000 by omega) (by omega) h1.1
  obtain ⟨w2, e2, f2, r2⟩ := r_grow0 (u := w1) (x := 5) (c := q) (by decide) r1 (by omega) (big48 hx (by omega))
  obtain ⟨w3, e3, f3, r3⟩ := r_load (u := w2) (x := 6) (a := 59) (fr := 20 * b) (by decide) (by decide) (by decide) rfl (show 20 * b + 20 ≤ 16000 by omega) (by omega) (Ts_X f2 (Ts_X f1 h2)).1
  obtain ⟨w4, e4, f4, r4⟩ := r_grow0 (u := w3) (x := 6) (c := p) (by decide) r3 (by omega) (big48 hy (by omega))
  have b4 := f4.2.2.2.2 5 _ (by decide) (by decide) (f3.2.2.2.2 5 _ (by decide) (by decide) r2)
  have e5 := r_order (u := w4) (x := 5) (y := 6) (by decide) (by decide) b4 r4
  refine ⟨w4, ?_, FX_t (FX_m f1 (fun y h => by omega)) (FX_t (FX_m f2 (fun y h => by omega)) (FX_t (FX_m f3 (fun y h => by omega)) (FX_m f4 (fun y h => by omega))))⟩
  have p1 : w1.2.2.1 60 b = nI q := (Ts_X f1 h2).2
  have p3 : w3.2.2.1 60 a = nI p := (Ts_X f3 (Ts_X f2 (Ts_X f1 h1))).2
  unfold M_Model_compare
  rw [show (20 : Int32) = nI 20 from rfl, qi_mul, qi_mul, show (5 : Int32) = nI 5 from rfl, e1, Option.bind_some, gc_t (qi_in (n := gLen 60) (by omega) (show b < 800 from hb)), qi_ix (by omega), p1, e2, Option.bind_some, show (6 : Int32) = nI 6 from rfl, e3, Option.bind_some, gc_t (qi_in (n := gLen 60) (by omega) (show a < 800 from ha)), qi_ix (by omega), p3, e4, Option.bind_some, e5, Option.bind_some]
def cvA (v : gSt) (a b k : Nat) : gSt := gsR v 59 (fun i => if 20 * a ≤ i ∧ i < 20 * a + k then v.2.2.1 59 (20 * b + (i - 20 * a)) else v.2.2.1 59 i)
theorem r_copyV {v : gSt} {a b x p : Nat} (ha : a < 800) (hb : b < 800) (hne : a ≠ b) (h : Ts v b x p) : ∃ w, M_Model_copyValue (nI a) (nI b) v = some w ∧ FT a v w ∧ Ts w a x p := by
  have key : gLp M_Model_copyValue_L2 (nI a, nI b, nI 0, cvA v a b 0) = some (nI a, nI b, cvA v a b 20) := by
    refine lp_to (S := fun k => (nI a, nI b, nI k, cvA v a b k)) (k := 0) (N := 20) (Nat.zero_le _) (fun k _ hk => ?_) ?_
    · show M_Model_copyValue_b2 (nI a) (nI b) (nI k) (cvA v a b k) = _
      unfold M_Model_copyValue_b2
      rw [show (20 : Int32) = nI 20 from rfl, if_neg (by rw [qi_le (by omega) (by omega)]; omega), qi_mul, qi_add, qi_mul, qi_add, gc_t (qi_in (n := gLen 59) (by omega) (show 20 * b + k < 16000 by omega)), gc_t (qi_in (n := gLen 59) (by omega) (show 20 * a + k < 16000 by omega)), qi_ix (by omega), qi_ix (by omega), gsA_R, show (1 : Int32) = nI 1 from rfl, qi_add]
      have e1 : (cvA v a b k).2.2.1 59 (20 * b + k) = v.2.2.1 59 (20 * b + k) := by
        unfold cvA
        rw [gsR_a]
        show (if 20 * a ≤ 20 * b + k ∧ 20 * b + k < 20 * a + k then _ else _) = _
        rw [if_neg (by omega)]
      rw [e1]
      refine congrArg (fun z => some (Sum.inl (nI a, nI b, nI (k + 1), z))) ?_
      unfold cvA
      rw [gsR_a, gsR_R]
      refine gsR_e (fun i => ?_)
      by_cases c : i = 20 * a + k
      · rw [c, pk_us, if_pos (by omega), show 20 * a + k - 20 * a = k by omega]
      · rw [pk_un c]
        by_cases d : 20 * a ≤ i ∧ i < 20 * a + k
        · rw [if_pos d, if_pos (by omega)]
        · rw [if_neg d, if_neg (by omega)]
    · show M_Model_copyValue_b2 (nI a) (nI b) (nI 20) (cvA v a b 20) = _
      unfold M_Model_copyValue_b2
      rw [if_pos (by decide)]
  have c0 : cvA v a b 0 = v := by
    unfold cvA
    refine gsR_0 (funext fun i => ?_)
    rw [if_neg (by omega)]
  rw [c0] at key
  have c60 : (cvA v a b 20).2.2.1 60 = v.2.2.1 60 := gsR_b (by decide)
  have r59 : (gsR (cvA v a b 20) 60 (upd (v.2.2.1 60) a (nI p))).2.2.1 59 = fun i => if 20 * a ≤ i ∧ i < 20 * a + 20 then v.2.2.1 59 (20 * b + (i - 20 * a)) else v.2.2.1 59 i := by
    rw [gsR_b (by decide)]
    exact gsR_a
  refine ⟨gsR (cvA v a b 20) 60 (upd (v.2.2.1 60) a (nI p)), ?_, ⟨fun _ _ _ => rfl, rfl, fun c _ _ e f => by rw [gsR_b f]; exact gsR_b e, rfl, fun k y q hk ht => ⟨⟨ht.1.1, fun l hl => ?_⟩, ?_⟩, fun y hy => Rs_R (by decide) (by decide) (Rs_R (by decide) (by decide) hy)⟩, ⟨h.1.1, fun l hl => ?_⟩, ?_⟩
  · unfold M_Model_copyValue
    show ((gLp M_Model_copyValue_L2 (nI a, nI b, nI 0, v)).bind _) = _
    rw [key, Option.bind_some]
    show (gc (gIn (nI b) (gLen 60)) <| gc (gIn (nI a) (gLen 60)) <| some (gsA (cvA v a b 20) 60 (gIx (nI a)) ((cvA v a b 20).2.2.1 60 (gIx (nI b))))) = _
    rw [gc_t (qi_in (n := gLen 60) (by omega) (show b < 800 from hb)), gc_t (qi_in (n := gLen 60) (by omega) (show a < 800 from ha)), qi_ix (by omega), qi_ix (by omega), gsA_R, c60, h.2]
  · rw [r59]
    show (if 20 * a ≤ 20 * k + l ∧ 20 * k + l < 20 * a + 20 then _ else _) = _
    rw [if_neg (by omega)]
    exact ht.1.2 l hl
  · rw [gsR_a, pk_un hk]
    exact ht.2
  · rw [r59]
    show (if 20 * a ≤ 20 * a + l ∧ 20 * a + l < 20 * a + 20 then _ else _) = _
    rw [if_pos (by omega), show 20 * a + l - 20 * a = l by omega]
    exact h.1.2 l hl
  · rw [gsR_a]
    exact pk_us
