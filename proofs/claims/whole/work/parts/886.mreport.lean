/-! The model's report as a whole. -/
def Row (v : gSt) (s : GS) (i c : Nat) : Prop := v.2.2.1 62 (5 * i) = nI (z_t s c) ∧ v.2.2.1 62 (5 * i + 1) = nI (z_h s c) ∧ v.2.2.1 62 (5 * i + 2) = nI (z_n s) ∧ v.2.2.1 62 (5 * i + 3) = nI (z_k s c) ∧ v.2.2.1 62 (5 * i + 4) = nI (s_n s)
def rwF (g : Nat → Int32) (i t h n k N : Nat) : Nat → Int32 := upd (upd (upd (upd (upd g (5 * i) (nI t)) (5 * i + 1) (nI h)) (5 * i + 2) (nI n)) (5 * i + 3) (nI k)) (5 * i + 4) (nI N)
theorem rwF_o {g : Nat → Int32} {i t h n k N l : Nat} (hl : l < 5 * i ∨ 5 * i + 5 ≤ l) : rwF g i t h n k N l = g l := by
  unfold rwF
  rw [pk_un (by omega), pk_un (by omega), pk_un (by omega), pk_un (by omega), pk_un (by omega)]
theorem rwF_a {g : Nat → Int32} {i t h n k N : Nat} : rwF g i t h n k N (5 * i) = nI t ∧ rwF g i t h n k N (5 * i + 1) = nI h ∧ rwF g i t h n k N (5 * i + 2) = nI n ∧ rwF g i t h n k N (5 * i + 3) = nI k ∧ rwF g i t h n k N (5 * i + 4) = nI N := by
  unfold rwF
  refine ⟨?_, ?_, ?_, ?_, ?_⟩
  · rw [pk_un (by omega), pk_un (by omega), pk_un (by omega), pk_un (by omega), pk_us]
  · rw [pk_un (by omega), pk_un (by omega), pk_un (by omega), pk_us]
  · rw [pk_un (by omega), pk_un (by omega), pk_us]
  · rw [pk_un (by omega), pk_us]
  · rw [pk_us]
theorem r_row1 {u v : gSt} {s : GS} {R i : Nat} {Q : Nat → Nat} (hs : Gd s) (hb : Bd u v s) (h36 : v.1 42 36 = nI R) (h61 : ∀ i, i < R → v.2.2.1 61 i = nI (Q i)) (hQ : ∀ i, i < R → Q i < z_m s) (hR : R ≤ 200) (hi : i < R) (hr : ∀ k, k < i → Row v s k (z_b s (Q k))) : ∃ w, M_Model_report_b229 (nI i) v = some (.inl (nI (i + 1), w)) ∧ Bd u w s ∧ w.1 42 36 = nI R ∧ (∀ i, i < R → w.2.2.1 61 i = nI (Q i)) ∧ ∀ k, k < i + 1 → Row w s k (z_b s (Q k)) := by
  have hm := z_m_le hs
  have q := hQ i hi
  have hzb := z_b_lt q
  have ht := (z_t_lt hzb).1
  have h58 := (hb.1.2.2.2.2 (Q i) q).2
  rw [show z_bk s (z_m s) (Q i) = z_b s (Q i) from rfl] at h58
  have b1 : Bd u (gsR v 62 (upd (v.2.2.1 62) (5 * i) (nI (z_t s (z_b s (Q i)))))) s := Bd_R hb (Or.inr rfl)
  have g1 : M_Model_genesAt (nI (z_t s (z_b s (Q i)))) (1 : Int32) (gsR v 62 (upd (v.2.2.1 62) (5 * i) (nI (z_t s (z_b s (Q i)))))) = some (nI (z_h s (z_b s (Q i))), sp (gsR v 62 (upd (v.2.2.1 62) (5 * i) (nI (z_t s (z_b s (Q i)))))) (s_t s) (s_n s)) := p_genesAt (fl := true) b1.1.2.1 hs ht
  have b2 := Bd_sp hs b1
  have k2 : ¬ (sp (gsR v 62 (upd (v.2.2.1 62) (5 * i) (nI (z_t s (z_b s (Q i)))))) (s_t s) (s_n s)).1 42 17 = 0 := sp_17
  have y62 : (sp (gsR v 62 (upd (v.2.2.1 62) (5 * i) (nI (z_t s (z_b s (Q i)))))) (s_t s) (s_n s)).2.2.1 62 = upd (v.2.2.1 62) (5 * i) (nI (z_t s (z_b s (Q i)))) := by
    rw [sp_A (by decide)]
    exact gsR_a
  have y61 : (sp (gsR v 62 (upd (v.2.2.1 62) (5 * i) (nI (z_t s (z_b s (Q i)))))) (s_t s) (s_n s)).2.2.1 61 = v.2.2.1 61 := by
    rw [sp_A (by decide)]
    exact gsR_b (by decide)
  have y36 : (sp (gsR v 62 (upd (v.2.2.1 62) (5 * i) (nI (z_t s (z_b s (Q i)))))) (s_t s) (s_n s)).1 42 36 = nI R := by
    rw [sp_F (by omega)]
    exact h36
  have hun : M_Model_report_b229 (nI i) v = ((M_Model_genesAt (nI (z_t s (z_b s (Q i)))) (1 : Int32) (gsR v 62 (upd (v.2.2.1 62) (5 * i) (nI (z_t s (z_b s (Q i))))))).bind fun q277 => (M_Model_genesAt (nI (z_t s (z_b s (Q i)))) (0 : Int32) (gsA (gsA q277.2 62 (5 * i + 1) q277.1) 62 (5 * i + 2) (q277.2.1 42 21))).bind fun q310 => some (.inl (nI (i + 1), gsA (gsA q310.2 62 (5 * i + 3) q310.1) 62 (5 * i + 4) (q310.2.1 42 10)))) := by
    unfold M_Model_report_b229
    rw [h36, if_neg (by rw [qi_le (by omega) (by omega)]; omega), gc_t (qi_in (n := gLen 61) (by omega) (show i < 200 by omega)), qi_ix (a := i) (by omega), h61 i hi, gc_t (qi_in (n := gLen 58) (by omega) (show Q i < 200 by omega)), qi_ix (a := Q i) (by omega), h58, show (5 : Int32) = nI 5 from rfl, qi_mul, gc_t (qi_in (n := gLen 62) (by omega) (show 5 * i < 1000 by omega)), qi_ix (a := 5 * i) (by omega), gsA_R, show (1 : Int32) = nI 1 from rfl, qi_add, show (2 : Int32) = nI 2 from rfl, qi_add, show (3 : Int32) = nI 3 from rfl, qi_add, show (4 : Int32) = nI 4 from rfl, qi_add, Option.bind_some, qi_ix (a := 5 * i + 1) (by omega), qi_ix (a := 5 * i + 2) (by omega), qi_ix (a := 5 * i + 3) (by omega), qi_ix (a := 5 * i + 4) (by omega), qi_add, qi_in (a := 5 * i + 1) (n := gLen 62) (by omega) (show 5 * i + 1 < 1000 by omega), qi_in (a := 5 * i + 2) (n := gLen 62) (by omega) (show 5 * i + 2 < 1000 by omega), qi_in (a := 5 * i + 3) (n := gLen 62) (by omega) (show 5 * i + 3 < 1000 by omega), qi_in (a := 5 * i + 4) (n := gLen 62) (by omega) (show 5 * i + 4 < 1000 by omega)]
    rfl
  generalize hY : sp (gsR v 62 (upd (v.2.2.1 62) (5 * i) (nI (z_t s (z_b s (Q i)))))) (s_t s) (s_n s) = Y at *
  have b3 : Bd u (gsR Y 62 (upd (upd (upd (v.2.2.1 62) (5 * i) (nI (z_t s (z_b s (Q i))))) (5 * i + 1) (nI (z_h s (z_b s (Q i))))) (5 * i + 2) (nI (z_n s)))) s := Bd_R b2 (Or.inr rfl)
  have g2 : M_Model_genesAt (nI (z_t s (z_b s (Q i)))) (0 : Int32) (gsR Y 62 (upd (upd (upd (v.2.2.1 62) (5 * i) (nI (z_t s (z_b s (Q i))))) (5 * i + 1) (nI (z_h s (z_b s (Q i))))) (5 * i + 2) (nI (z_n s)))) = some (nI (z_k s (z_b s (Q i))), sp (gsR Y 62 (upd (upd (upd (v.2.2.1 62) (5 * i) (nI (z_t s (z_b s (Q i))))) (5 * i + 1) (nI (z_h s (z_b s (Q i))))) (5 * i + 2) (nI (z_n s)))) (s_t s) (s_n s)) := p_genesAt (fl := false) b3.1.2.1 hs ht
  rw [sp_kn (show ¬ (gsR Y 62 (upd (upd (upd (v.2.2.1 62) (5 * i) (nI (z_t s (z_b s (Q i))))) (5 * i + 1) (nI (z_h s (z_b s (Q i))))) (5 * i + 2) (nI (z_n s)))).1 42 17 = 0 from k2)] at g2
  refine ⟨gsR Y 62 (rwF (v.2.2.1 62) i (z_t s (z_b s (Q i))) (z_h s (z_b s (Q i))) (z_n s) (z_k s (z_b s (Q i))) (s_n s)), ?_, Bd_R b2 (Or.inr rfl), y36, fun k hk => ?_, fun k hk => ?_⟩
  · rw [hun, g1, Option.bind_some]
    show ((M_Model_genesAt (nI (z_t s (z_b s (Q i)))) (0 : Int32) (gsA (gsA Y 62 (5 * i + 1) (nI (z_h s (z_b s (Q i))))) 62 (5 * i + 2) (Y.1 42 21))).bind _) = _
    rw [gsA_R (u := Y), y62, gsA_R, gsR_a, gsR_R, b2.1.2.1.2.2.2.2.2.2.2.2.2.2.1]
    show ((M_Model_genesAt (nI (z_t s (z_b s (Q i)))) (0 : Int32) (gsR Y 62 (upd (upd (upd (v.2.2.1 62) (5 * i) (nI (z_t s (z_b s (Q i))))) (5 * i + 1) (nI (z_h s (z_b s (Q i))))) (5 * i + 2) (nI (z_n s))))).bind _) = _
    rw [g2, Option.bind_some]
    show some (Sum.inl (nI (i + 1), gsA (gsA (gsR Y 62 (upd (upd (upd (v.2.2.1 62) (5 * i) (nI (z_t s (z_b s (Q i))))) (5 * i + 1) (nI (z_h s (z_b s (Q i))))) (5 * i + 2) (nI (z_n s)))) 62 (5 * i + 3) (nI (z_k s (z_b s (Q i))))) 62 (5 * i + 4) (Y.1 42 10))) = _
    rw [b2.1.2.1.2.1, gsA_R (u := gsR Y 62 _), gsR_a, gsR_R, gsA_R, gsR_a, gsR_R]
    rfl
  · rw [gsR_b (by decide), y61]
    exact h61 k hk
  · unfold Row
    rw [gsR_a]
    by_cases c : k = i
    · rw [c]
      exact rwF_a
    · rw [rwF_o (by omega), rwF_o (by omega), rwF_o (by omega), rwF_o (by omega), rwF_o (by omega)]
      exact hr k (by omega)
theorem r_rowsL {u v : gSt} {s : GS} {R : Nat} {Q : Nat → Nat} (hs : Gd s) (hb : Bd u v s) (h36 : v.1 42 36 = nI R) (h61 : ∀ i, i < R → v.2.2.1 61 i = nI (Q i)) (hQ : ∀ i, i < R → Q i < z_m s) (hR : R ≤ 200) : ∃ w, gLp M_Model_report_L229 (nI 0, v) = some w ∧ Bd u w s ∧ w.1 42 36 = nI R ∧ (∀ i, i < R → w.2.2.1 61 i = nI (Q i)) ∧ ∀ k, k < R → Row w s k (z_b s (Q k)) := by
  refine lp_rel (f := M_Model_report_L229) (Po := fun w : gSt => Bd u w s ∧ w.1 42 36 = nI R ∧ (∀ i, i < R → w.2.2.1 61 i = nI (Q i)) ∧ ∀ k, k < R → Row w s k (z_b s (Q k))) (fun i (x : Int32 × gSt) => x.1 = nI i ∧ Bd u x.2 s ∧ x.2.1 42 36 = nI R ∧ (∀ i, i < R → x.2.2.2.1 61 i = nI (Q i)) ∧ ∀ k, k < i → Row x.2 s k (z_b s (Q k))) R 0 R (by omega) (fun i x _ hi hx => ?_) (fun x hx => ?_) (nI 0, v) ⟨rfl, hb, h36, h61, fun k hk => absurd hk (Nat.not_lt_zero _)⟩
  · obtain ⟨x1, y⟩ := x
    obtain ⟨rfl, q1, q2, q3, q4⟩ := hx
    obtain ⟨w, e, r1, r2, r3, r4⟩ := r_row1 hs q1 q2 q3 hQ hR hi q4
    exact ⟨(nI (i + 1), w), e, rfl, r1, r2, r3, r4⟩
  · obtain ⟨x1, y⟩ := x
    obtain ⟨rfl, q1, q2, q3, q4⟩ := hx
    have q2' : y.1 42 36 = nI R := q2
    refine ⟨y, ?_, q1, q2, q3, q4⟩
    show M_Model_report_b229 (nI R) y = _
    unfold M_Model_report_b229
    rw [q2', if_pos ((qi_le (by omega) (by omega)).mpr (Nat.le_refl _))]
theorem A300 {s : GS} (hs : Gd s) : z_A s < 32768 ^ 20 := Nat.lt_of_le_of_lt (z_A_le hs) (by decide)
theorem r_report {u : gSt} {s : GS} {va n d : Nat} (hm : Mg u s) (hs : Gd s) (hva : va < 4) (hn : n < 2147483648) (hd : d < 2147483648) : ∃ w, M_Model_report_b24 (nI va) (nI n) (nI d) (0 : Int32) u = some (nI (z_r s va n d), w) ∧ FQ (gsF u 42 41 0) w ∧ Mg w s ∧ w.1 42 36 = nI (z_r s va n d) ∧ Sv w 63 0 (z_A s) ∧ ∀ i, i < z_r s va n d → z_o s va n d i < z_m s ∧ Row w s i (z_o s va n d i) ∧ w.2.2.1 61 i = nI (z_p s (z_o s va n d i)) ∧ ∀ k, k < 4 → Ts w (4 * z_p s (z_o s va n d i) + k) (cN s k (z_o s va n d i)) (cD s k (z_o s va n d i)) := by
  have hzm := z_m_le hs
  have m0 : Mg (gsF u 42 41 0) s := Mg_F (u := u) (fun j hj => gF_o (by omega)) (fun _ _ _ => rfl) hm
  obtain ⟨w1, e1, f1, m1, l1⟩ := r_rank m0 hs
  obtain ⟨w2, e2, s2, z2⟩ := r_rate hs (show St (gsF u 42 41 0) w1 s from ⟨f1, m1, l1⟩)
  have e3 := r_save (u := w2) (x := 4) (a := 63) (fr := 0) (by decide) (by decide) (by decide) rfl (by decide) (by decide) s2.2.2.2.1
  have b3 : Bd (gsF u 42 41 0) (svA w2 63 0 (z_A s)) s := ⟨⟨FQ_t s2.1 (FQ_R (by decide) (by decide)), Mg_R (by decide) s2.2.1, Lc_R (by decide) s2.2.2⟩, fun i hi k hk => Ts_R (by decide) (by decide) (z2 i hi k hk), Sv_s (A300 hs)⟩
  obtain ⟨w4, Q, R, e4, p4⟩ := r_pick (va := va) (n := n) (d := d) hs hva hn hd (Bd_F (x := nI 0) b3) gF_a
  obtain ⟨hR, hO⟩ := pick_eq hs p4
  have hQ : ∀ i, i < R → Q i < z_m s := fun i hi => (p4.2.1.1 i hi).1
  obtain ⟨w5, e5, b5, g5, h5, r5⟩ := r_rowsL hs p4.1 p4.2.2.1 p4.2.2.2 hQ (by have := p4.2.1.2.2.2; omega)
  rw [hR] at g5
  refine ⟨w5, ?_, b5.1.1, b5.1.2.1, g5, b5.2.2, fun i hi => ?_⟩
  · unfold M_Model_report_b24
    rw [p_fails0, Option.bind_some]
    show (if (0 : Int32) = 0 then ((M_Model_rank (gsF u 42 41 0)).bind fun q34 => (M_Model_rate q34).bind fun q38 => (M_Model_save (4 : Int32) 63 (0 : Int32) q38).bind fun q48 => (some (gsF q48 42 36 (0 : Int32))).bind fun u53 => (gLp M_Model_report_L59 (nI va, nI n, nI d, (0 : Int32), u53)).bind fun y59 => (gLp M_Model_report_L229 ((0 : Int32), y59)).bind fun y229 => some (y229.1 42 36, y229)) else _) = _
    rw [if_pos rfl, e1, Option.bind_some, e2, Option.bind_some]
    show ((M_Model_save (nI 4) 63 (nI 0) w2).bind _) = _
    rw [e3, Option.bind_some, Option.bind_some]
    show ((gLp M_Model_report_L59 (nI va, nI n, nI d, nI 0, gsF (svA w2 63 0 (z_A s)) 42 36 (nI 0))).bind _) = _
    rw [e4, Option.bind_some]
    show ((gLp M_Model_report_L229 (nI 0, w4)).bind _) = _
    rw [e5, Option.bind_some, g5]
  · have hi2 : i < R := by omega
    have q := hQ i hi2
    have ho := hO i hi2
    have hp : z_p s (z_o s va n d i) = Q i := by rw [← ho, z_p_b q]
    refine ⟨by rw [← ho]; exact z_b_lt q, ?_, ?_, fun k hk => ?_⟩
    · rw [← ho]
      exact r5 i hi2
    · rw [hp]
      exact h5 i hi2
    · unfold cN cD
      rw [hp]
      exact b5.2.1 (Q i) q k hk
