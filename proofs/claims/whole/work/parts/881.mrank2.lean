/-! The model's rank as a whole. -/
def z_bk (s : GS) (c : Nat) : Nat → Nat := dsort (fle (z_x s) (fun _ => 1)) (fun c => c) c
/-- the model's list of the first c candidates -/
def Lc (v : gSt) (s : GS) (c : Nat) : Prop := v.1 42 31 = nI c ∧ Rs v 4 (z_A s) ∧ ∀ j, j < c → Sv v 57 (20 * j) (z_x s (z_bk s c j)) ∧ v.2.2.1 58 j = nI (z_t s (z_bk s c j))
theorem r_ins {v : gSt} {s : GS} {c t : Nat} (hs : Gd s) (hc : c < z_m s) (ht : z_t s c = t) (hm : Mg v s) (hx : Rs v 0 (z_x s c)) (hl : Lc v s c) : ∃ w, (gLp M_Model_rank_L49 (nI t, v.1 42 31, v)).bind (fun y49 => (Sum.elim (fun y49_0 => M_Model_rank_b113 y49_0.1 y49_0.2.1 y49_0.2.2) (fun y49_1 => M_Model_rank_b113 y49_1.1 y49_1.2.1 y49_1.2.2)) y49) = some (.inl (nI (t + 1), w)) ∧ FQ v w ∧ Mg w s ∧ Lc w s (c + 1) := by
  have hm2 := z_m_le hs
  obtain ⟨h31, h4, hj⟩ := hl
  have hB : z_bk s c c = c := dsort_hi c c (Nat.le_refl _)
  obtain ⟨p1, p2⟩ := posA_ok (nu := z_x s) (de := fun _ => 1) (A := z_bk s c) (i := c) (fun _ _ => Nat.one_pos) (dsort_ord (nu := z_x s) (de := fun _ => 1) (A := fun c => c) c (fun _ _ => Nat.one_pos) c (Nat.le_refl _))
  have hp := posA_le (le := fle (z_x s) (fun _ => 1)) (A := z_bk s c) (i := c)
  have hnext : z_bk s (c + 1) = insA (z_bk s c) c (posA (fle (z_x s) (fun _ => 1)) (z_bk s c) c) := rfl
  generalize posA (fle (z_x s) (fun _ => 1)) (z_bk s c) c = p at p1 p2 hp hnext
  rw [hB] at p1 p2
  have lo : ∀ i, i < p → z_x s (z_bk s c i) ≤ z_x s c := fun i hi => by
    have : z_x s (z_bk s c i) * 1 ≤ z_x s c * 1 := of_decide_eq_true (p1 i hi)
    omega
  have up : ∀ i, p ≤ i → i < c → z_x s c < z_x s (z_bk s c i) := fun i h1 h2 => by
    have : ¬ z_x s (z_bk s c i) * 1 ≤ z_x s c * 1 := of_decide_eq_false (p2 i h1 h2)
    omega
  obtain ⟨y, e, w, hy, fq, mw, r0, r4, w31, gp⟩ := lp_rel (f := M_Model_rank_L49) (Po := fun y => ∃ w, (y = .inl (nI t, nI p, w) ∨ y = .inr (nI t, nI p, w)) ∧ FQ v w ∧ Mg w s ∧ Rs w 0 (z_x s c) ∧ Rs w 4 (z_A s) ∧ w.1 42 31 = nI c ∧ Gp w s (z_bk s c) c p) (fun d (x : Int32 × Int32 × gSt) => x.1 = nI t ∧ x.2.1 = nI (c - d) ∧ FQ v x.2.2 ∧ Mg x.2.2 s ∧ Rs x.2.2 0 (z_x s c) ∧ Rs x.2.2 4 (z_A s) ∧ x.2.2.1 42 31 = nI c ∧ Gp x.2.2 s (z_bk s c) c (c - d)) (c - p) 0 (c - p) (by omega) (fun d x _ hd hx => by
    obtain ⟨x1, x2, y⟩ := x
    obtain ⟨rfl, rfl, q1, q2, q3, q4, q5, q6⟩ := hx
    obtain ⟨k, hk⟩ : ∃ k, c - d = k + 1 := ⟨c - d - 1, by omega⟩
    rw [hk] at q6
    obtain ⟨w, e, f, m, r0, r4, h31, g⟩ := r_gap (t := t) hs (by omega) (show k < c by omega) q6 q3 q4 (up k (by omega) (by omega))
    refine ⟨(nI t, nI k, w), ?_, rfl, ?_, FQ_t q1 f, m q2, r0, r4, h31.trans q5, ?_⟩
    · show M_Model_rank_b49 (nI t) (nI (c - d)) y = _
      rw [hk, e]
    · show nI k = _
      rw [show c - (d + 1) = k by omega]
    · rw [show c - (d + 1) = k by omega]
      exact g) (fun x hx => by
    obtain ⟨x1, x2, y⟩ := x
    obtain ⟨rfl, rfl, q1, q2, q3, q4, q5, q6⟩ := hx
    rw [show c - (c - p) = p by omega] at q6
    obtain ⟨w, e, f, m, r0, r4, h31, g⟩ := r_gapE (t := t) (by omega) hp q6 q3 q4 lo
    rcases e with e | e
    · refine ⟨.inl (nI t, nI p, w), ?_, w, Or.inl rfl, FQ_t q1 f, m q2, r0, r4, h31.trans q5, g⟩
      show M_Model_rank_b49 (nI t) (nI (c - (c - p))) y = _
      rw [show c - (c - p) = p by omega, e]
    · refine ⟨.inr (nI t, nI p, w), ?_, w, Or.inr rfl, FQ_t q1 f, m q2, r0, r4, h31.trans q5, g⟩
      show M_Model_rank_b49 (nI t) (nI (c - (c - p))) y = _
      rw [show c - (c - p) = p by omega, e]) (nI t, nI c, v) ⟨rfl, rfl, FQ_0, hm, hx, h4, h31, fun j h1 h2 => by
    have h3 : j < c := by omega
    rw [show shA (z_bk s c) (c - 0) j = z_bk s c j from if_pos h3]
    exact hj j h3⟩
  have e3 := r_save (u := w) (x := 0) (a := 57) (fr := 20 * p) (by decide) (by decide) (by decide) rfl (show 20 * p + 20 ≤ 4000 by omega) (by omega) r0
  have hb : M_Model_rank_b113 (nI t) (nI p) w = some (.inl (nI (t + 1), gsF (gsR (svA w 57 (20 * p) (z_x s c)) 58 (upd (w.2.2.1 58) p (nI t))) 42 31 (nI (c + 1)))) := by
    unfold M_Model_rank_b113 M_Model_rank_b143
    have w58 : (svA w 57 (20 * p) (z_x s c)).2.2.1 58 = w.2.2.1 58 := gsR_b (by decide)
    rw [show (20 : Int32) = nI 20 from rfl, qi_mul, show (0 : Int32) = nI 0 from rfl, e3, Option.bind_some, gc_t (qi_in (n := gLen 58) (by omega) (show p < 200 by omega)), qi_ix (by omega), gsA_R, w58, Option.bind_some, Option.bind_some]
    show some (Sum.inl (nI t + nI 1, gsF (gsR (svA w 57 (20 * p) (z_x s c)) 58 (upd (w.2.2.1 58) p (nI t))) 42 31 (w.1 42 31 + nI 1))) = _
    rw [w31, qi_add, qi_add]
  refine ⟨gsF (gsR (svA w 57 (20 * p) (z_x s c)) 58 (upd (w.2.2.1 58) p (nI t))) 42 31 (nI (c + 1)), ?_, FQ_t fq (FQ_t (FQ_R (by decide) (by decide)) (FQ_t (FQ_R (by decide) (by decide)) (FQ_F (Or.inl rfl)))), Mg_31 (Or.inl rfl) (Mg_R (by decide) (Mg_R (by decide) mw)), gF_a, Rs_R (by decide) (by decide) (Rs_R (by decide) (by decide) r4), fun j hj2 => ?_⟩
  · rw [h31, e, Option.bind_some]
    rcases hy with rfl | rfl
    · exact hb
    · exact hb
  · rw [hnext]
    show Sv (gsR (svA w 57 (20 * p) (z_x s c)) 58 (upd (w.2.2.1 58) p (nI t))) 57 (20 * j) _ ∧ (gsR (svA w 57 (20 * p) (z_x s c)) 58 (upd (w.2.2.1 58) p (nI t))).2.2.1 58 j = _
    rw [gsR_a]
    by_cases e9 : j = p
    · subst e9
      have ei : insA (z_bk s c) c j j = c := by
        unfold insA
        rw [if_neg (by omega), if_pos rfl, hB]
      rw [ei, ht]
      exact ⟨Sv_R (by decide) (Sv_s (x300 hs _)), pk_us⟩
    · have ei : insA (z_bk s c) c p j = shA (z_bk s c) p j := by
        unfold insA shA
        by_cases c1 : j < p
        · rw [if_pos c1, if_pos c1]
        · rw [if_neg c1, if_neg c1, if_neg e9, if_pos (by omega)]
      rw [ei, pk_un e9]
      have g := gp j (by omega) e9
      exact ⟨Sv_R (by decide) (Sv_n (by omega) g.1), g.2⟩
theorem Lc_P {u w : gSt} {s : GS} {c : Nat} (h : FP (fun y => y < 4) u w) (hl : Lc u s c) : Lc w s c := ⟨by rw [h.1 42 31 (by omega)]; exact hl.1, h.2.2.2.2 4 _ (by decide) (by decide) hl.2.1, fun j hj => ⟨Sv_P h (by decide) (by decide) (by decide) (hl.2.2 j hj).1, by rw [h.2.2.1 58 (by decide) (by decide) (by decide)]; exact (hl.2.2 j hj).2⟩⟩
theorem r_rank {u : gSt} {s : GS} (hm : Mg u s) (hs : Gd s) : ∃ w, M_Model_rank u = some w ∧ FQ u w ∧ Mg w s ∧ Lc w s (z_m s) := by
  have hT := hs.1
  obtain ⟨w0, e0, f0, r0⟩ := r_choose (u := u) (x := 4) (v := s_n s) (k := z_n s) (by decide) (z_n_le s) hs.2.1
  have m0 := Mg_X f0 hm
  obtain ⟨w, e, fq, mw, lw⟩ := lp_rel (f := M_Model_rank_L20) (Po := fun w : gSt => FQ u w ∧ Mg w s ∧ Lc w s (z_m s)) (fun t (x : Int32 × gSt) => x.1 = nI t ∧ FQ u x.2 ∧ Mg x.2 s ∧ Lc x.2 s (cnt (s_can s) t)) (s_t s) 0 (s_t s) (by omega) (fun t x _ ht hx => by
    obtain ⟨x1, v⟩ := x
    obtain ⟨rfl, q1, q2, q3⟩ := hx
    have q2' : Mg v s := q2
    obtain ⟨v1, hv1, ec⟩ := p_mcand q2' hs ht
    have fp : FP (fun y => y < 4) v v1 := by
      rcases hv1 with rfl | rfl
      · exact FP_X FX_0
      · exact FP_sp
    have m1 : Mg v1 s := by
      rcases hv1 with rfl | rfl
      · exact q2
      · exact Mg_after q2 hs
    have l1 := Lc_P fp q3
    have hun : M_Model_rank_b20 (nI t) v = if b2i (s_can s t) = (0 : Int32) then some (.inl (nI (t + 1), v1)) else ((M_Model_count (nI t) v1).bind fun q41 => (gLp M_Model_rank_L49 (nI t, q41.1 42 31, q41)).bind fun y49 => (Sum.elim (fun y49_0 => M_Model_rank_b113 y49_0.1 y49_0.2.1 y49_0.2.2) (fun y49_1 => M_Model_rank_b113 y49_1.1 y49_1.2.1 y49_1.2.2)) y49) := by
      unfold M_Model_rank_b20 M_Model_rank_b143
      rw [q2'.1, if_neg (by rw [qi_le (by omega) (by omega)]; omega), ec, Option.bind_some, show (1 : Int32) = nI 1 from rfl, qi_add]
    cases ez : s_can s t
    · refine ⟨(nI (t + 1), v1), ?_, rfl, FQ_t q1 (FQ_P fp), m1, ?_⟩
      · show M_Model_rank_b20 (nI t) v = _
        rw [hun, ez, if_pos (show b2i false = (0 : Int32) from rfl)]
      · rw [cnt_s0 ez]
        exact l1
    · have hcm : cnt (s_can s) t < z_m s := by
        have := cnt_up2 (P := s_can s) (show t + 1 ≤ s_t s by omega)
        rw [cnt_s1 ez] at this
        exact this
      have hzt : z_t s (cnt (s_can s) t) = t := na_at ez ht
      obtain ⟨k1, k2, k3, k4⟩ := z_ok s (cnt (s_can s) t)
      unfold z_h at k1 k2 k4
      unfold z_k at k1 k3 k4
      rw [hzt] at k1 k2 k3 k4
      obtain ⟨v2, e2, f2, m2, r2⟩ := r_count m1 hs ht k1 k2 k3 k4
      have r2' : Rs v2 0 (z_x s (cnt (s_can s) t)) := by
        unfold z_x z_h z_k
        rw [hzt]
        exact r2
      obtain ⟨v3, e3, f3, m3, l3⟩ := r_ins hs hcm hzt m2 r2' (Lc_P f2 l1)
      refine ⟨(nI (t + 1), v3), ?_, rfl, FQ_t q1 (FQ_t (FQ_P fp) (FQ_t (FQ_P f2) f3)), m3, ?_⟩
      · show M_Model_rank_b20 (nI t) v = _
        rw [hun, ez, if_neg (by decide), e2, Option.bind_some, e3]
      · rw [cnt_s1 ez]
        exact l3) (fun x hx => by
    obtain ⟨x1, v⟩ := x
    obtain ⟨rfl, q1, q2, q3⟩ := hx
    have q2' : Mg v s := q2
    refine ⟨v, ?_, q1, q2, q3⟩
    show M_Model_rank_b20 (nI (s_t s)) v = _
    unfold M_Model_rank_b20
    rw [q2'.1, if_pos ((qi_le (by omega) (by omega)).mpr (Nat.le_refl _))]) (nI 0, gsF w0 42 31 (nI 0)) ⟨rfl, FQ_t (FQ_X f0) (FQ_F (Or.inl rfl)), Mg_31 (Or.inl rfl) m0, gF_a, r0, fun j hj => absurd hj (Nat.not_lt_zero _)⟩
  refine ⟨w, ?_, fq, mw, lw⟩
  unfold M_Model_rank
  rw [hm.2.1, hm.2.2.2.2.2.2.2.2.2.2.1]
  show ((M_Model_choose (nI 4) (nI (s_n s)) (nI (z_n s)) u).bind _) = _
  rw [e0, Option.bind_some]
  show ((gLp M_Model_rank_L20 (nI 0, gsF w0 42 31 (nI 0))).bind _) = _
  rw [e]
  rfl
