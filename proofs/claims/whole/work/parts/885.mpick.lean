/-! The model picks its rows. -/
def Sq (s : GS) (va : Nat) (W : Nat → Bool) (J : Nat) (Q : Nat → Nat) (R : Nat) : Prop := (∀ i, i < R → Q i < J ∧ W (z_b s (Q i)) = true) ∧ (∀ p q, p < q → q < R → slt (cN s va) (cD s va) (z_b s (Q p)) (z_b s (Q q))) ∧ (∀ j, j < J → W (z_b s j) = true → ∃ i, i < R ∧ Q i = j) ∧ R ≤ J
def insQ (Q : Nat → Nat) (p j : Nat) : Nat → Nat := fun i => if i < p then Q i else if i = p then j else Q (i - 1)
theorem Sq_no {s : GS} {va J R : Nat} {W : Nat → Bool} {Q : Nat → Nat} (h : Sq s va W J Q R) (hw : W (z_b s J) = false) : Sq s va W (J + 1) Q R := by
  refine ⟨fun i hi => ⟨by have := (h.1 i hi).1; omega, (h.1 i hi).2⟩, h.2.1, fun j hj hwj => ?_, by have := h.2.2.2; omega⟩
  by_cases c : j = J
  · rw [c, hw] at hwj
    cases hwj
  · exact h.2.2.1 j (by omega) hwj
theorem cD_pos {s : GS} (hs : Gd s) {v j : Nat} (h : j < z_m s) : 0 < cD s v (z_b s j) := by
  rw [(cN_b h).2]
  exact (zV_ok hs h).2.2.1
theorem Sq_in {s : GS} {va J R p : Nat} {W : Nat → Bool} {Q : Nat → Nat} (hs : Gd s) (hJ : J < z_m s) (h : Sq s va W J Q R) (hw : W (z_b s J) = true) (hp : p ≤ R) (h1 : ∀ i, p ≤ i → i < R → bef s va J (Q i) = true) (h2 : ∀ i, i + 1 = p → bef s va J (Q i) = false) : Sq s va W (J + 1) (insQ Q p J) (R + 1) := by
  have hq : ∀ i, i < R → Q i < z_m s := fun i hi => by have := (h.1 i hi).1; omega
  have lo : ∀ i, i < p → slt (cN s va) (cD s va) (z_b s (Q i)) (z_b s J) := fun i hi => by
    have hl : slt (cN s va) (cD s va) (z_b s (Q (p - 1))) (z_b s J) := by
      have hb := h2 (p - 1) (by omega)
      have hn : ¬ slt (cN s va) (cD s va) (z_b s J) (z_b s (Q (p - 1))) := fun h9 => by
        rw [(bef_i hJ (hq _ (by omega))).mpr h9] at hb
        cases hb
      exact slt_to (z_b_ne hJ (hq _ (by omega)) (by have := (h.1 (p - 1) (by omega)).1; omega)) hn
    by_cases c : i = p - 1
    · rw [c]
      exact hl
    · exact slt_tr (cD_pos hs (hq i (by omega))) (cD_pos hs (hq _ (by omega))) (cD_pos hs hJ) (h.2.1 i (p - 1) (by omega) (by omega)) hl
  have up : ∀ i, p ≤ i → i < R → slt (cN s va) (cD s va) (z_b s J) (z_b s (Q i)) := fun i hi hi2 => (bef_i hJ (hq i hi2)).mp (h1 i hi hi2)
  refine ⟨fun i hi => ?_, fun a b hab hb => ?_, fun j hj hwj => ?_, by have := h.2.2.2; omega⟩
  · unfold insQ
    by_cases c1 : i < p
    · rw [if_pos c1]
      have := h.1 i (by omega)
      exact ⟨by omega, this.2⟩
    · rw [if_neg c1]
      by_cases c2 : i = p
      · rw [if_pos c2]
        exact ⟨by omega, hw⟩
      · rw [if_neg c2]
        have := h.1 (i - 1) (by omega)
        exact ⟨by omega, this.2⟩
  · unfold insQ
    by_cases c1 : b < p
    · rw [if_pos c1, if_pos (show a < p by omega)]
      exact h.2.1 a b hab (by omega)
    · rw [if_neg c1]
      by_cases c2 : b = p
      · rw [if_pos c2, if_pos (show a < p by omega)]
        exact lo a (by omega)
      · rw [if_neg c2]
        by_cases c3 : a < p
        · rw [if_pos c3]
          exact h.2.1 a (b - 1) (by omega) (by omega)
        · rw [if_neg c3]
          by_cases c4 : a = p
          · rw [if_pos c4]
            exact up (b - 1) (by omega) (by omega)
          · rw [if_neg c4]
            exact h.2.1 (a - 1) (b - 1) (by omega) (by omega)
  · by_cases c : j = J
    · refine ⟨p, by omega, ?_⟩
      unfold insQ
      rw [if_neg (by omega), if_pos rfl, c]
    · obtain ⟨i, i1, i2⟩ := h.2.2.1 j (by omega) hwj
      by_cases c1 : i < p
      · refine ⟨i, by omega, ?_⟩
        unfold insQ
        rw [if_pos c1, i2]
      · refine ⟨i + 1, by omega, ?_⟩
        unfold insQ
        rw [if_neg (by omega), if_neg (by omega), show i + 1 - 1 = i by omega, i2]
/-- the model with R rows picked of the first J places -/
def Pk (u v : gSt) (s : GS) (va : Nat) (W : Nat → Bool) (J : Nat) (Q : Nat → Nat) (R : Nat) : Prop := Bd u v s ∧ Sq s va W J Q R ∧ v.1 42 36 = nI R ∧ ∀ i, i < R → v.2.2.1 61 i = nI (Q i)
theorem r_pick1 {u v : gSt} {s : GS} {va n d J R : Nat} {Q : Nat → Nat} (hs : Gd s) (hva : va < 4) (hn : n < 2147483648) (hd : d < 2147483648) (hJ : J < z_m s) (h : Pk u v s va (z_w s va n d) J Q R) : ∃ w Q' R', M_Model_report_b59 (nI va) (nI n) (nI d) (nI J) v = some (.inl (nI va, nI n, nI d, nI (J + 1), w)) ∧ Pk u w s va (z_w s va n d) (J + 1) Q' R' := by
  have hm := z_m_le hs
  obtain ⟨hb, hq, h36, h61⟩ := h
  have hR := hq.2.2.2
  have o1 := zV_ok hs (v := va) hJ
  have hA := z_A_le hs
  have t1 := hb.2.1 J hJ va hva
  obtain ⟨w1, e1, f1, r1⟩ := r_load (u := v) (x := 5) (a := 59) (fr := 20 * (4 * J + va)) (by decide) (by decide) (by decide) rfl (show 20 * (4 * J + va) + 20 ≤ 16000 by omega) (by omega) t1.1
  obtain ⟨w2, e2, f2, r2⟩ := r_grow0 (u := w1) (x := 5) (c := d) (by decide) r1 hd (big48 (zN_200 hs hJ) hd)
  have a2 : Rs w2 4 (z_A s) := f2.2.2.2.2 4 _ (by decide) (by decide) (f1.2.2.2.2 4 _ (by decide) (by decide) hb.1.2.2.2.1)
  obtain ⟨w3, e3, f3, r3⟩ := r_copy (u := w2) (x := 6) (y := 4) (by decide) (by decide) (by decide) a2
  obtain ⟨w4, e4, f4, r4⟩ := r_grow0 (u := w3) (x := 6) (c := zD s va J) (by decide) r3 (by omega) (big48 (Nat.le_trans hA (by decide)) (by omega))
  obtain ⟨w5, e5, f5, r5⟩ := r_grow0 (u := w4) (x := 6) (c := n) (by decide) r4 hn (big48 (Nat.mul_le_mul hA o1.2.2.2) hn)
  have b5 := f5.2.2.2.2 5 _ (by decide) (by decide) (f4.2.2.2.2 5 _ (by decide) (by decide) (f3.2.2.2.2 5 _ (by decide) (by decide) r2))
  have e6 := r_order (u := w5) (x := 5) (y := 6) (by decide) (by decide) b5 r5
  have F : FX (fun y => y = 5 ∨ y = 6) v w5 := FX_t (FX_m f1 (fun y h => by omega)) (FX_t (FX_m f2 (fun y h => by omega)) (FX_t (FX_m f3 (fun y h => by omega)) (FX_t (FX_m f4 (fun y h => by omega)) (FX_m f5 (fun y h => by omega)))))
  have p3 : w3.2.2.1 60 (4 * J + va) = nI (zD s va J) := (Ts_X f3 (Ts_X f2 (Ts_X f1 t1))).2
  have bw := Bd_X hb F (by decide)
  have h36' : w5.1 42 36 = nI R := by rw [F.1 42 36 (by omega)]; exact h36
  have h61' : ∀ i, i < R → w5.2.2.1 61 i = nI (Q i) := fun i hi => by rw [F.2.2.1 61 (by decide) (by decide)]; exact h61 i hi
  have hun : M_Model_report_b59 (nI va) (nI n) (nI d) (nI J) v = if cmp (zN s va J * d) (z_A s * zD s va J * n) ≤ (0 : Int32) then ((gLp M_Model_report_L148 (nI va, nI n, nI d, nI J, nI R, w5)).bind fun y148 => gc (gIn y148.2.2.2.2.1 (gLen 61)) <| (some (gsA y148.2.2.2.2.2 61 (gIx y148.2.2.2.2.1) y148.2.2.2.1)).bind fun u209 => (some (gsF u209 42 36 ((u209.1 42 36) + (1 : Int32)))).bind fun u217 => M_Model_report_b220 y148.1 y148.2.1 y148.2.2.1 y148.2.2.2.1 u217) else some (.inl (nI va, nI n, nI d, nI (J + 1), w5)) := by
    unfold M_Model_report_b59
    rw [hb.1.2.2.1, if_neg (by rw [qi_le (by omega) (by omega)]; omega), show (4 : Int32) = nI 4 from rfl, qi_mul, qi_add, show (20 : Int32) = nI 20 from rfl, qi_mul]
    show ((M_Model_load (nI 5) 59 (nI (20 * (4 * J + va))) v).bind _) = _
    rw [e1, Option.bind_some]
    show ((M_Model_grow (nI 5) (nI d).toInt64 (0 : Int64) w1).bind _) = _
    rw [e2, Option.bind_some]
    show ((M_Model_copyNumber (nI 6) (nI 4) w2).bind _) = _
    rw [e3, Option.bind_some, gc_t (qi_in (n := gLen 60) (by omega) (show 4 * J + va < 800 by omega)), qi_ix (by omega), p3]
    show ((M_Model_grow (nI 6) (nI (zD s va J)).toInt64 (0 : Int64) w3).bind _) = _
    rw [e4, Option.bind_some]
    show ((M_Model_grow (nI 6) (nI n).toInt64 (0 : Int64) w4).bind _) = _
    rw [e5, Option.bind_some]
    show ((M_Model_order (nI 5) (nI 6) w5).bind _) = _
    rw [e6, Option.bind_some, h36']
    show (if cmp (zN s va J * d) (z_A s * zD s va J * n) ≤ (0 : Int32) then _ else some (Sum.inl (nI va, nI n, nI d, nI J + nI 1, w5))) = _
    rw [qi_add]
  have hwz : z_w s va n d (z_b s J) = decide (zN s va J * d ≤ z_A s * zD s va J * n) := by
    unfold z_w
    rw [(cN_b hJ).1, (cN_b hJ).2]
  rw [hun]
  by_cases c : zN s va J * d ≤ z_A s * zD s va J * n
  · rw [if_pos (cmp_np.mpr c)]
    have hw : z_w s va n d (z_b s J) = true := by rw [hwz]; exact decide_eq_true c
    obtain ⟨p, w, hp, e, bd, g36, pg, q1, q2⟩ := r_pgap (u := u) (a := nI n) (b := nI d) (Q := Q) (R := R) hs hva hJ (by omega) (fun i hi => by have := (hq.1 i hi).1; omega) R w5 (Nat.le_refl _) bw h36' (fun i h1 h2 => by
      have h3 : i < R := by omega
      rw [show shA Q R i = Q i from if_pos h3]
      exact h61' i h3) (fun i h1 h2 => by omega)
    refine ⟨gsF (gsR w 61 (upd (w.2.2.1 61) p (nI J))) 42 36 (nI (R + 1)), insQ Q p J, R + 1, ?_, Bd_F (Bd_R bd (Or.inl rfl)), Sq_in hs hJ hq hw hp q1 q2, gF_a, fun i hi => ?_⟩
    · rw [e, Option.bind_some]
      unfold M_Model_report_b220
      show (gc (gIn (nI p) (gLen 61)) <| some (Sum.inl (nI va, nI n, nI d, nI J + nI 1, gsF (gsA w 61 (gIx (nI p)) (nI J)) 42 36 (w.1 42 36 + nI 1)))) = _
      rw [gc_t (qi_in (n := gLen 61) (by omega) (show p < 200 by omega)), qi_ix (by omega), g36, qi_add, qi_add, gsA_R]
    · show (gsR w 61 (upd (w.2.2.1 61) p (nI J))).2.2.1 61 i = _
      rw [gsR_a]
      unfold insQ
      by_cases c1 : i = p
      · rw [c1, pk_us, if_neg (by omega), if_pos rfl]
      · rw [pk_un c1, pg i (by omega) c1]
        unfold shA
        by_cases c2 : i < p
        · rw [if_pos c2, if_pos c2]
        · rw [if_neg c2, if_neg c2, if_neg c1]
  · rw [if_neg (by rw [cmp_np]; exact c)]
    have hw : z_w s va n d (z_b s J) = false := by rw [hwz]; exact decide_eq_false c
    exact ⟨w5, Q, R, rfl, bw, Sq_no hq hw, h36', h61'⟩
theorem r_pick {u v : gSt} {s : GS} {va n d : Nat} (hs : Gd s) (hva : va < 4) (hn : n < 2147483648) (hd : d < 2147483648) (h : Bd u v s) (h36 : v.1 42 36 = nI 0) : ∃ w Q R, gLp M_Model_report_L59 (nI va, nI n, nI d, nI 0, v) = some w ∧ Pk u w s va (z_w s va n d) (z_m s) Q R := by
  have hm := z_m_le hs
  obtain ⟨w, e, Q, R, p⟩ := lp_rel (f := M_Model_report_L59) (Po := fun w : gSt => ∃ Q R, Pk u w s va (z_w s va n d) (z_m s) Q R) (fun J (x : Int32 × Int32 × Int32 × Int32 × gSt) => x.1 = nI va ∧ x.2.1 = nI n ∧ x.2.2.1 = nI d ∧ x.2.2.2.1 = nI J ∧ ∃ Q R, Pk u x.2.2.2.2 s va (z_w s va n d) J Q R) (z_m s) 0 (z_m s) (by omega) (fun J x _ hJ hx => by
    obtain ⟨x1, x2, x3, x4, y⟩ := x
    obtain ⟨rfl, rfl, rfl, rfl, Q, R, p⟩ := hx
    obtain ⟨w, Q', R', e, p'⟩ := r_pick1 hs hva hn hd hJ p
    exact ⟨(nI va, nI n, nI d, nI (J + 1), w), e, rfl, rfl, rfl, rfl, Q', R', p'⟩) (fun x hx => by
    obtain ⟨x1, x2, x3, x4, y⟩ := x
    obtain ⟨rfl, rfl, rfl, rfl, Q, R, p⟩ := hx
    have b : Bd u y s := p.1
    refine ⟨y, ?_, Q, R, p⟩
    show M_Model_report_b59 (nI va) (nI n) (nI d) (nI (z_m s)) y = _
    unfold M_Model_report_b59
    rw [b.1.2.2.1, if_pos ((qi_le (by omega) (by omega)).mpr (Nat.le_refl _))]) (nI va, nI n, nI d, nI 0, v) ⟨rfl, rfl, rfl, rfl, fun _ => 0, 0, h, ⟨fun i hi => absurd hi (Nat.not_lt_zero _), fun p q h1 h2 => absurd h2 (Nat.not_lt_zero _), fun j hj => absurd hj (Nat.not_lt_zero _), Nat.le_refl _⟩, h36, fun i hi => absurd hi (Nat.not_lt_zero _)⟩
  exact ⟨w, Q, R, e, p⟩
/-- both sides pick the same -/
theorem pick_eq {u v : gSt} {s : GS} {va n d R : Nat} {Q : Nat → Nat} (hs : Gd s) (h : Pk u v s va (z_w s va n d) (z_m s) Q R) : R = z_r s va n d ∧ ∀ i, i < R → z_b s (Q i) = z_o s va n d i := by
  obtain ⟨-, hq, -, -⟩ := h
  have hA : ∀ q, q < z_r s va n d → na (z_w s va n d) (z_m s) q < z_m s := fun q hq => (na_ok _ _ hq).1
  have hd : ∀ q, q < z_r s va n d → 0 < cD s va (na (z_w s va n d) (z_m s) q) := fun q hq => by
    obtain ⟨h1, h2⟩ := z_p_ok (hA q hq)
    rw [← h2]
    exact cD_pos hs h1
  refine seq_eq (nu := cN s va) (de := cD s va) hq.2.1 (dsort_st (z_r s va n d) hd (fun p q h1 h2 => na_lt h2 h1) (z_r s va n d) (Nat.le_refl _)) (fun i hi => ?_) (fun i hi => ?_)
  · obtain ⟨h1, h2⟩ := hq.1 i hi
    have h3 := z_b_lt h1
    obtain ⟨j, j1, j2⟩ := dsort_to (le := fle (cN s va) (cD s va)) (A := na (z_w s va n d) (z_m s)) (z_r s va n d) (cnt (z_w s va n d) (z_b s (Q i))) (by
      have := cnt_up2 (P := z_w s va n d) (show z_b s (Q i) + 1 ≤ z_m s by omega)
      rw [cnt_s1 h2] at this
      exact this)
    refine ⟨j, j1, ?_⟩
    show dsort _ _ _ j = _
    rw [j2, na_at h2 h3]
  · obtain ⟨q, q1, q2⟩ := dsort_of (le := fle (cN s va) (cD s va)) (A := na (z_w s va n d) (z_m s)) (z_r s va n d) i hi
    obtain ⟨k1, k2, k3⟩ := na_ok _ _ q1
    obtain ⟨m1, m2⟩ := z_p_ok k1
    obtain ⟨k, a1, a2⟩ := hq.2.2.1 (z_p s (na (z_w s va n d) (z_m s) q)) m1 (by rw [m2]; exact k2)
    refine ⟨k, a1, ?_⟩
    show z_b s (Q k) = dsort _ _ _ i
    rw [a2, m2, q2]
