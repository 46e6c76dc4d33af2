/-! The model's rank: its candidates put in one behind another. -/
def FQ (u w : gSt) : Prop := (∀ a j, a ≠ 42 ∨ (j ≠ 17 ∧ j ≠ 28 ∧ j ≠ 31 ∧ j ≠ 36) → w.1 a j = u.1 a j) ∧ w.2.1 = u.2.1 ∧ (∀ a, a < 53 ∨ a = 54 ∨ 64 ≤ a → w.2.2.1 a = u.2.2.1 a) ∧ w.2.2.2 = u.2.2.2
theorem FQ_0 {u : gSt} : FQ u u := ⟨fun _ _ _ => rfl, rfl, fun _ _ => rfl, rfl⟩
theorem FQ_t {u v w : gSt} (h : FQ u v) (k : FQ v w) : FQ u w := ⟨fun a j e => by rw [k.1 a j e, h.1 a j e], by rw [k.2.1, h.2.1], fun a e => by rw [k.2.2.1 a e, h.2.2.1 a e], by rw [k.2.2.2, h.2.2.2]⟩
theorem FQ_P {P : Nat → Prop} {u w : gSt} (h : FP P u w) : FQ u w := ⟨fun a j e => h.1 a j (by omega), h.2.1, fun a e => h.2.2.1 a (by omega) (by omega) (by omega), h.2.2.2.1⟩
theorem FQ_X {P : Nat → Prop} {u w : gSt} (h : FX P u w) : FQ u w := FQ_P (FP_X h)
theorem FQ_R {u : gSt} {a : Nat} {f : Nat → Int32} (h : 55 ≤ a) (h2 : a < 64) : FQ u (gsR u a f) := ⟨fun _ _ _ => rfl, rfl, fun b e => gsR_b (by omega), rfl⟩
theorem FQ_F {u : gSt} {j : Nat} {x : Int32} (h : j = 31 ∨ j = 36) : FQ u (gsF u 42 j x) := ⟨fun a k e => gF_o (by omega), rfl, fun _ _ => rfl, rfl⟩
theorem Sv_X {P : Nat → Prop} {u w : gSt} {a fr v : Nat} (h : FX P u w) (h1 : a ≠ 55) (h2 : a ≠ 56) (hv : Sv u a fr v) : Sv w a fr v := ⟨hv.1, fun k hk => by rw [h.2.2.1 a h1 h2]; exact hv.2 k hk⟩
theorem Sv_P {P : Nat → Prop} {u w : gSt} {a fr v : Nat} (h : FP P u w) (h0 : a ≠ 53) (h1 : a ≠ 55) (h2 : a ≠ 56) (hv : Sv u a fr v) : Sv w a fr v := ⟨hv.1, fun k hk => by rw [h.2.2.1 a h0 h1 h2]; exact hv.2 k hk⟩
theorem Sv_R {u : gSt} {a b fr v : Nat} {f : Nat → Int32} (h : a ≠ b) (hv : Sv u a fr v) : Sv (gsR u b f) a fr v := ⟨hv.1, fun k hk => by rw [gsR_b h]; exact hv.2 k hk⟩
theorem Sv_s {u : gSt} {a fr v : Nat} (h : v < 32768 ^ 20) : Sv (svA u a fr v) a fr v := by
  refine ⟨h, fun k hk => ?_⟩
  unfold svA
  rw [gsR_a]
  show (if fr ≤ fr + k ∧ fr + k < fr + 20 then _ else _) = _
  rw [if_pos ⟨by omega, by omega⟩, show fr + k - fr = k by omega]
theorem Sv_n {u : gSt} {a fr v fr' v' : Nat} (h : fr' + 20 ≤ fr ∨ fr + 20 ≤ fr') (hv : Sv u a fr' v') : Sv (svA u a fr v) a fr' v' := by
  refine ⟨hv.1, fun k hk => ?_⟩
  unfold svA
  rw [gsR_a]
  show (if fr ≤ fr' + k ∧ fr' + k < fr + 20 then _ else _) = _
  rw [if_neg (by omega)]
  exact hv.2 k hk
theorem Rs_R {u : gSt} {a x v : Nat} {f : Nat → Int32} (h1 : a ≠ 55) (h2 : a ≠ 56) (h : Rs u x v) : Rs (gsR u a f) x v := by
  unfold Rs
  rw [gsR_b (Ne.symm h1), gsR_b (Ne.symm h2)]
  exact h
theorem Mg_R {u : gSt} {s : GS} {a : Nat} {f : Nat → Int32} (h : 55 ≤ a) (hm : Mg u s) : Mg (gsR u a f) s := Mg_F (u := u) (fun _ _ => rfl) (fun b _ _ => gsR_b (by omega)) hm
theorem Mg_31 {u : gSt} {s : GS} {j : Nat} {x : Int32} (h : j = 31 ∨ j = 36) (hm : Mg u s) : Mg (gsF u 42 j x) s := Mg_F (fun k _ => gF_o (by omega)) (fun _ _ _ => rfl) hm
def shA (B : Nat → Nat) (k j : Nat) : Nat := if j < k then B j else B (j - 1)
/-- the model's list with a gap at k -/
def Gp (v : gSt) (s : GS) (B : Nat → Nat) (c k : Nat) : Prop := ∀ j, j ≤ c → j ≠ k → Sv v 57 (20 * j) (z_x s (shA B k j)) ∧ v.2.2.1 58 j = nI (z_t s (shA B k j))
theorem x300 {s : GS} (hs : Gd s) (c : Nat) : z_x s c < 32768 ^ 20 := Nat.lt_of_le_of_lt (Nat.le_trans (z_x_le s c) (z_A_le hs)) (by decide)
theorem r_gap {v : gSt} {s : GS} {B : Nat → Nat} {c k t x : Nat} (hs : Gd s) (hc : c < 200) (hk : k < c) (hg : Gp v s B c (k + 1)) (hx : Rs v 0 x) (hA : Rs v 4 (z_A s)) (hlt : x < z_x s (B k)) : ∃ w, M_Model_rank_b49 (nI t) (nI (k + 1)) v = some (.inl (nI t, nI k, w)) ∧ FQ v w ∧ (Mg v s → Mg w s) ∧ Rs w 0 x ∧ Rs w 4 (z_A s) ∧ w.1 42 31 = v.1 42 31 ∧ Gp w s B c k := by
  have g1 := hg k (by omega) (by omega)
  rw [show shA B (k + 1) k = B k from if_pos (by omega)] at g1
  obtain ⟨w1, e1, f1, r1⟩ := r_load (u := v) (x := 5) (a := 57) (fr := 20 * k) (by decide) (by decide) (by decide) rfl (show 20 * k + 20 ≤ 4000 by omega) (by omega) g1.1
  have r0 := f1.2.2.2.2 0 _ (by decide) (by decide) hx
  have r4 := f1.2.2.2.2 4 _ (by decide) (by decide) hA
  have e2 := r_order (u := w1) (x := 5) (y := 0) (by decide) (by decide) r1 r0
  have e3 := r_save (u := w1) (x := 5) (a := 57) (fr := 20 * (k + 1)) (by decide) (by decide) (by decide) rfl (show 20 * (k + 1) + 20 ≤ 4000 by omega) (by omega) r1
  refine ⟨gsR (svA w1 57 (20 * (k + 1)) (z_x s (B k))) 58 (upd (w1.2.2.1 58) (k + 1) (nI (z_t s (B k)))), ?_, FQ_t (FQ_X f1) (FQ_t (FQ_R (by decide) (by decide)) (FQ_R (by decide) (by decide))), fun hm => Mg_R (by decide) (Mg_R (by decide) (Mg_X f1 hm)), Rs_R (by decide) (by decide) (Rs_R (by decide) (by decide) r0), Rs_R (by decide) (by decide) (Rs_R (by decide) (by decide) r4), f1.1 42 31 (by omega), fun j hj hjk => ?_⟩
  · unfold M_Model_rank_b49
    have w58 : (svA w1 57 (20 * (k + 1)) (z_x s (B k))).2.2.1 58 = w1.2.2.1 58 := gsR_b (by decide)
    rw [if_neg (by rw [qi_le0 (by omega)]; omega), show (1 : Int32) = nI 1 from rfl, pk_sub (by omega), show k + 1 - 1 = k by omega, show (20 : Int32) = nI 20 from rfl, qi_mul, show (5 : Int32) = nI 5 from rfl, e1, Option.bind_some, show (0 : Int32) = nI 0 from rfl, e2, Option.bind_some, qi_mul]
    show (if (0 : Int32) < cmp (z_x s (B k)) x then ((M_Model_save (nI 5) 57 (nI (20 * (k + 1))) w1).bind fun q90 => gc (gIn (nI k) (gLen 58)) <| gc (gIn (nI (k + 1)) (gLen 58)) <| some (Sum.inl (nI t, nI (k + 1) + (-1 : Int32), gsA q90 58 (gIx (nI (k + 1))) (q90.2.2.1 58 (gIx (nI k)))))) else _) = _
    rw [if_pos (cmp_pos.mpr hlt), e3, Option.bind_some, gc_t (qi_in (n := gLen 58) (by omega) (show k < 200 by omega)), gc_t (qi_in (n := gLen 58) (by omega) (show k + 1 < 200 by omega)), qi_ix (by omega), qi_ix (by omega), qi_m1 (by omega), show k + 1 - 1 = k by omega, gsA_R, w58, f1.2.2.1 58 (by decide) (by decide), g1.2]
  · have h58 : (gsR (svA w1 57 (20 * (k + 1)) (z_x s (B k))) 58 (upd (w1.2.2.1 58) (k + 1) (nI (z_t s (B k))))).2.2.1 58 = upd (w1.2.2.1 58) (k + 1) (nI (z_t s (B k))) := gsR_a
    rw [h58]
    by_cases e : j = k + 1
    · subst e
      rw [show shA B k (k + 1) = B k from if_neg (by omega)]
      exact ⟨Sv_R (by decide) (Sv_s (x300 hs _)), pk_us⟩
    · rw [pk_un e]
      have g2 := hg j hj e
      have es : shA B (k + 1) j = shA B k j := by
        unfold shA
        by_cases c1 : j < k
        · rw [if_pos c1, if_pos (by omega)]
        · rw [if_neg c1, if_neg (by omega)]
      rw [es] at g2
      refine ⟨Sv_R (by decide) (Sv_n (by omega) (Sv_X f1 (by decide) (by decide) g2.1)), ?_⟩
      rw [f1.2.2.1 58 (by decide) (by decide)]
      exact g2.2
theorem r_gapE {v : gSt} {s : GS} {B : Nat → Nat} {c k t x : Nat} (hc : c < 200) (hk : k ≤ c) (hg : Gp v s B c k) (hx : Rs v 0 x) (hA : Rs v 4 (z_A s)) (hle : ∀ i, i < k → z_x s (B i) ≤ x) : ∃ w, (M_Model_rank_b49 (nI t) (nI k) v = some (.inr (.inl (nI t, nI k, w))) ∨ M_Model_rank_b49 (nI t) (nI k) v = some (.inr (.inr (nI t, nI k, w)))) ∧ FQ v w ∧ (Mg v s → Mg w s) ∧ Rs w 0 x ∧ Rs w 4 (z_A s) ∧ w.1 42 31 = v.1 42 31 ∧ Gp w s B c k := by
  by_cases c0 : k = 0
  · subst c0
    exact ⟨v, Or.inl (by unfold M_Model_rank_b49; rw [if_pos (by decide)]), FQ_0, fun h => h, hx, hA, rfl, hg⟩
  · obtain ⟨i, rfl⟩ : ∃ i, k = i + 1 := ⟨k - 1, by omega⟩
    have g1 := hg i (by omega) (by omega)
    rw [show shA B (i + 1) i = B i from if_pos (by omega)] at g1
    obtain ⟨w1, e1, f1, r1⟩ := r_load (u := v) (x := 5) (a := 57) (fr := 20 * i) (by decide) (by decide) (by decide) rfl (show 20 * i + 20 ≤ 4000 by omega) (by omega) g1.1
    have r0 := f1.2.2.2.2 0 _ (by decide) (by decide) hx
    have r4 := f1.2.2.2.2 4 _ (by decide) (by decide) hA
    have e2 := r_order (u := w1) (x := 5) (y := 0) (by decide) (by decide) r1 r0
    refine ⟨w1, Or.inr ?_, FQ_X f1, Mg_X f1, r0, r4, f1.1 42 31 (by omega), fun j hj hjk => ?_⟩
    · unfold M_Model_rank_b49
      rw [if_neg (by rw [qi_le0 (by omega)]; omega), show (1 : Int32) = nI 1 from rfl, pk_sub (by omega), show i + 1 - 1 = i by omega, show (20 : Int32) = nI 20 from rfl, qi_mul, show (5 : Int32) = nI 5 from rfl, e1, Option.bind_some, show (0 : Int32) = nI 0 from rfl, e2, Option.bind_some]
      show (if (0 : Int32) < cmp (z_x s (B i)) x then _ else some (Sum.inr (Sum.inr (nI t, nI (i + 1), w1)))) = _
      rw [if_neg (by rw [cmp_pos]; have := hle i (by omega); omega)]
    · have g2 := hg j hj hjk
      refine ⟨Sv_X f1 (by decide) (by decide) g2.1, ?_⟩
      rw [f1.2.2.1 58 (by decide) (by decide)]
      exact g2.2
