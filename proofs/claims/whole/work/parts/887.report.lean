/-! The law's case 9: report. -/
def FN (u w : gSt) : Prop := (∀ a j, a ≠ 27 → (a ≠ 0 ∨ j ≠ 7) → (a ≠ 42 ∨ (j ≠ 17 ∧ j ≠ 28 ∧ j ≠ 31 ∧ j ≠ 36 ∧ j ≠ 41)) → w.1 a j = u.1 a j) ∧ w.2.1 = u.2.1 ∧ (∀ a, a < 28 ∨ (38 ≤ a ∧ a < 53) ∨ a = 54 ∨ a = 64 ∨ a = 65 ∨ a = 66 → w.2.2.1 a = u.2.2.1 a) ∧ ∀ a, a ≠ 66 → w.2.2.2 a = u.2.2.2 a
theorem FN_t {u v w : gSt} (h : FN u v) (k : FN v w) : FN u w := ⟨fun a j e f g => by rw [k.1 a j e f g, h.1 a j e f g], by rw [k.2.1, h.2.1], fun a e => by rw [k.2.2.1 a e, h.2.2.1 a e], fun a e => by rw [k.2.2.2 a e, h.2.2.2 a e]⟩
theorem FN_0 {u : gSt} : FN u u := ⟨fun _ _ _ _ _ => rfl, rfl, fun _ _ => rfl, fun _ _ => rfl⟩
theorem FN_K {u w : gSt} (h : FK u w) : FN u w := ⟨fun a j e _ _ => h.1 a j (Or.inl e), h.2.1, fun a e => h.2.2.1 a (by omega), fun a _ => by rw [h.2.2.2]⟩
theorem FN_C {u w : gSt} (h : FC u w) : FN u w := ⟨fun a j e _ _ => h.1 a j (Or.inl e), h.2.1, fun a e => h.2.2.1 a (by omega) (by omega) (by omega), fun a _ => by rw [h.2.2.2]⟩
theorem FN_Q {u w : gSt} (h : FQ u w) : FN u w := ⟨fun a j _ _ g => h.1 a j (by omega), h.2.1, fun a e => h.2.2.1 a (by omega), fun a _ => by rw [h.2.2.2]⟩
theorem FN_7 {u : gSt} {x : Int32} : FN u (gsF u 0 7 x) := ⟨fun a j _ f _ => gF_o f, rfl, fun _ _ => rfl, fun _ _ => rfl⟩
theorem FN_41 {u : gSt} {x : Int32} : FN u (gsF u 42 41 x) := ⟨fun a j _ _ g => gF_o (by omega), rfl, fun _ _ => rfl, fun _ _ => rfl⟩
theorem FN_L {u : gSt} {x : Int64} : FN u (gsL u 66 0 x) := by
  refine ⟨fun _ _ _ _ _ => rfl, rfl, fun _ _ => rfl, fun a e => ?_⟩
  show (if a = 66 then _ else _) = _
  rw [if_neg e]
theorem RK_o {u w : gSt} {s : GS} (h1 : ∀ j, j < 13 → w.1 27 j = u.1 27 j) (h2 : ∀ a, (28 ≤ a ∧ a ≤ 33) ∨ 67 ≤ a → w.2.2.1 a = u.2.2.1 a) (h : RK u s) : RK w s := by
  obtain ⟨⟨t1, t2, t3, t4⟩, wv, sl⟩ := h
  refine ⟨⟨by rw [h1 10 (by omega), t1], by rw [h1 11 (by omega), t2], by rw [h1 12 (by omega), t3], fun c hc => ?_⟩, ⟨wv.1, fun i hi => by rw [h2 33 (by omega)]; exact wv.2 i hi⟩, fun v j hv hj => ⟨⟨(sl v j hv hj).1.1, fun i hi => by rw [h2 _ (by omega)]; exact (sl v j hv hj).1.2 i hi⟩, by rw [h2 32 (by omega)]; exact (sl v j hv hj).2.1, (sl v j hv hj).2.2⟩⟩
  rw [h2 28 (by omega), h2 29 (by omega), h2 30 (by omega)]
  exact t4 c hc
/-- what both sides hold of a row's values, as far as print reads them -/
def PV (u : gSt) (r : Nat) : Prop := ∀ i, i < r → ∃ A N n c j, A = ch N n ∧ n ≤ N ∧ N ≤ 200 ∧ c < 200 ∧ j < 200 ∧ Wv u 33 A ∧ Sv u 63 0 A ∧ u.2.2.1 35 i = nI c ∧ u.2.2.1 61 i = nI j ∧ ∀ v, v < 4 → ∃ a p, Sl u (200 * v + c) a p ∧ Ts u (4 * j + v) a p ∧ 0 < a ∧ a ≤ A * p ∧ 0 < p ∧ p ≤ 200
theorem d_report {u : gSt} {s : GS} {va n d : Nat} (hs : Gd s) (hd : Dg u s) (hr : ¬ u.1 0 7 = 0 → RK u s) (hva : va < 4) (hn : n < 2147483648) (hd2 : d < 2147483648) (h1 : (1 : Int32) ≤ nI d) : ∃ w, M_Law_report (nI va) (nI n) (nI d) u = some (0, gsL w 66 0 (nI (z_r s va n d)).toInt64) ∧ FN u w ∧ (∀ a j, a = 42 → w.1 a j = u.1 a j) ∧ (∀ a, 49 ≤ a → a < 67 → w.2.2.1 a = u.2.2.1 a) ∧ RK w s ∧ w.1 27 13 = nI (z_r s va n d) ∧ ∀ k, k < z_r s va n d → w.2.2.1 35 k = nI (z_o s va n d k) := by
  have c1 : ¬ nI va < (0 : Int32) := by
    rw [show (0 : Int32) = nI 0 from rfl, qi_lt (by omega) (by omega)]
    omega
  have c2 : ¬ (4 : Int32) ≤ nI va := by
    rw [show (4 : Int32) = nI 4 from rfl, qi_le (by omega) (by omega)]
    omega
  have c3 : ¬ nI n < (0 : Int32) := by
    rw [show (0 : Int32) = nI 0 from rfl, qi_lt (by omega) (by omega)]
    omega
  have hE : E_Desk_report (nI va) (nI n) (nI d) u = none := by
    unfold E_Desk_report
    rw [if_neg c1, if_neg c2, if_neg c3, if_pos h1]
    split <;> rfl
  have hu0 : ∃ u0, (M_Desk_report (nI va) (nI n) (nI d) u = M_Desk_report_b51 (nI va) (nI n) (nI d) u0) ∧ FN u u0 ∧ (∀ a j, a = 42 → u0.1 a j = u.1 a j) ∧ (∀ a, 49 ≤ a → a < 67 → u0.2.2.1 a = u.2.2.1 a) ∧ RK u0 s := by
    by_cases c7 : u.1 0 7 = 0
    · obtain ⟨w, e, f, r⟩ := p_rank hd hs
      refine ⟨gsF w 0 7 1, ?_, FN_t (FN_K f) FN_7, fun a j ha => by rw [gF_o (by omega), f.1 a j (by omega)], fun a h1 h2 => f.2.2.1 a (by omega), RK_o (u := w) (fun j _ => gF_o (by omega)) (fun _ _ => rfl) r⟩
      unfold M_Desk_report
      rw [if_neg c1, if_neg c2, if_neg c3, if_pos h1, if_pos c7, e]
      rfl
    · refine ⟨u, ?_, FN_0, fun _ _ _ => rfl, fun _ _ _ => rfl, hr c7⟩
      unfold M_Desk_report
      rw [if_neg c1, if_neg c2, if_neg c3, if_pos h1, if_neg c7]
  obtain ⟨u0, e0, f0, g0, k0, r0⟩ := hu0
  obtain ⟨w, ew, fw, w13, w35⟩ := p_choose (v := va) (n := n) (d := d) hs r0 hva hn hd2
  refine ⟨w, ?_, FN_t f0 (FN_C fw), fun a j ha => by rw [fw.1 a j (by omega), g0 a j ha], fun a h1 h2 => by rw [fw.2.2.1 a (by omega) (by omega) (by omega), k0 a h1 h2], RK_C fw r0, w13, w35⟩
  unfold M_Law_report
  rw [hE]
  show ((M_Desk_report (nI va) (nI n) (nI d) u).bind _) = _
  rw [e0]
  unfold M_Desk_report_b51
  rw [ew, Option.bind_some, w13]
  rfl
theorem p_c9 {L j : Nat} {xs : Nat → Int32} {u : gSt} {s : GS} (hL : L ≤ 3072) (h : 6 * j + 6 ≤ L) (hs : Gd s) (hd : Dg u s) (hm : Mg u s) (hr : ¬ u.1 0 7 = 0 → RK u s) : (∃ k : Int32, M_Law_c9 L xs (nI (6 * j)) u = some (gsF u 42 41 k)) ∨ ∃ w r, M_Law_c9 L xs (nI (6 * j)) u = some w ∧ FN u w ∧ Mg w s ∧ RK w s ∧ rw_ok w r ∧ PV w r := by
  have hall := fun (k b : Int32) (u1 u2 : gSt) => q_c9 (L := L) (j := j) (xs := xs) (u := u) (u1 := u1) (u2 := u2) (k := k) (b := b) hL h
  generalize M_Law_c9 L xs (nI (6 * j)) u = V at hall ⊢
  generalize xs (gIx (nI (6 * j) + (1 : Int32))) = x at hall
  generalize xs (gIx (nI (6 * j) + (2 : Int32))) = y at hall
  generalize xs (gIx (nI (6 * j) + (3 : Int32))) = z at hall
  have hbad : M_Model_report_b19 x y z u = some (0, gsF u 42 41 1) := by
    unfold M_Model_report_b19 M_Model_report_b24
    rw [p_fails1, Option.bind_some, if_neg (show ¬ (1 : Int32) = 0 by decide)]
  have bad : M_Law_report x y z u = some (1, u) → M_Model_report x y z u = some (0, gsF u 42 41 1) → (∃ k : Int32, V = some (gsF u 42 41 k)) ∨ ∃ w r, V = some w ∧ FN u w ∧ Mg w s ∧ RK w s ∧ rw_ok w r ∧ PV w r := fun h1 h2 => Or.inl ⟨1, hall 1 0 u _ h1 h2 rfl (fun h9 => absurd h9 (show ¬ (1 : Int32) = 0 by decide))⟩
  by_cases c1 : x < 0
  · refine bad ?_ ?_
    · unfold M_Law_report E_Desk_report
      rw [if_pos c1]
      rfl
    · unfold M_Model_report
      rw [if_pos c1, hbad]
  · by_cases c2 : (4 : Int32) ≤ x
    · refine bad ?_ ?_
      · unfold M_Law_report E_Desk_report
        rw [if_neg c1, if_pos c2]
        rfl
      · unfold M_Model_report
        rw [if_neg c1, if_pos (by rw [Int32.lt_iff_toInt_lt, show (3 : Int32).toInt = 3 from rfl]; rw [Int32.le_iff_toInt_le, show (4 : Int32).toInt = 4 from rfl] at c2; omega), hbad]
    · obtain ⟨va, rfl, hva⟩ := qi_of (n := 4) c1 c2 (by decide)
      have d2 : ¬ (3 : Int32) < nI va := by
        rw [show (3 : Int32) = nI 3 from rfl, qi_lt (by omega) (by omega)]
        omega
      by_cases c3 : y < 0
      · refine bad ?_ ?_
        · unfold M_Law_report E_Desk_report
          rw [if_neg c1, if_neg c2, if_pos c3]
          rfl
        · unfold M_Model_report
          rw [if_neg c1, if_neg d2, if_pos c3, hbad]
      · by_cases c4 : (1 : Int32) ≤ z
        · obtain ⟨n, hn, rfl⟩ := nI_of c3
          obtain ⟨d, hd2, rfl⟩ := nI_of (x := z) (by
            rw [Int32.lt_iff_toInt_lt, Int32.toInt_zero]
            rw [Int32.le_iff_toInt_le, show (1 : Int32).toInt = 1 from rfl] at c4
            omega)
          obtain ⟨w, e1, f1, g1, k1, r1, w13, w35⟩ := d_report (va := va) (n := n) (d := d) hs hd hr hva hn hd2 c4
          have m1 : Mg (gsL w 66 0 (nI (z_r s va n d)).toInt64) s := Mg_F (u := u) (fun j _ => g1 42 j rfl) (fun a h1 h2 => k1 a h1 (by omega)) hm
          obtain ⟨w2, e2, f2, m2, w36, sv, rows⟩ := r_report (va := va) (n := n) (d := d) m1 hs hva hn hd2
          have hmod : M_Model_report (nI va) (nI n) (nI d) (gsL w 66 0 (nI (z_r s va n d)).toInt64) = some (nI (z_r s va n d), w2) := by
            unfold M_Model_report
            rw [if_neg c1, if_neg d2, if_neg c3, if_pos c4, e2]
          have hzr : z_r s va n d ≤ 200 := Nat.le_trans (cnt_le _) (z_m_le hs)
          have hzm := z_m_le hs
          have q27 : ∀ j, w2.1 27 j = w.1 27 j := fun j => by
            rw [f2.1 27 j (by omega), gF_o (by omega)]
            rfl
          have qA : ∀ a, a < 53 ∨ 67 ≤ a → w2.2.2.1 a = w.2.2.1 a := fun a ha => by
            rw [f2.2.2.1 a (by omega)]
            rfl
          have r2 : RK w2 s := RK_o (u := w) (fun j _ => q27 j) (fun a ha => qA a (by omega)) r1
          refine Or.inr ⟨w2, z_r s va n d, hall 0 (nI (z_r s va n d)) _ _ e1 hmod ?_ (fun _ => ?_), FN_t f1 (FN_t FN_L (FN_t FN_41 (FN_Q f2))), m2, r2, ⟨hzr, by rw [q27, w13], w36, fun i hi => ?_⟩, fun i hi => ?_⟩
          · rw [f2.1 42 41 (by omega), gF_a]
          · rw [f2.2.2.2]
            rfl
          · obtain ⟨o1, o2, o3, o4⟩ := rows i hi
            have t := r2.1.2.2.2 _ o1
            refine ⟨z_o s va n d i, by omega, by rw [qA 35 (by omega), w35 i hi], ?_, ?_, ?_, ?_, ?_⟩
            · rw [o2.1, t.1]
            · rw [o2.2.1, t.2.1]
            · rw [o2.2.2.1, r2.1.2.1]
            · rw [o2.2.2.2.1, t.2.2]
            · rw [o2.2.2.2.2, r2.1.1]
          · obtain ⟨o1, o2, o3, o4⟩ := rows i hi
            have zp := (z_p_ok o1).1
            refine ⟨z_A s, s_n s, z_n s, z_o s va n d i, z_p s (z_o s va n d i), rfl, z_n_le s, hs.2.1, by omega, by omega, r2.2.1, sv, by rw [qA 35 (by omega), w35 i hi], o3, fun v hv => ⟨cN s v (z_o s va n d i), cD s v (z_o s va n d i), RK_c r2 hv o1, o4 v hv, ?_⟩⟩
            exact zV_ok hs (v := v) zp
        · refine bad ?_ ?_
          · unfold M_Law_report E_Desk_report
            rw [if_neg c1, if_neg c2, if_neg c3, if_neg c4]
            rfl
          · unfold M_Model_report
            rw [if_neg c1, if_neg d2, if_neg c3, if_neg c4, hbad]
