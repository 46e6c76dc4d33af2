/-! The class's rank: chances, order, the values put right. -/
theorem TK_S {u v : gSt} {s : GS} {k i : Nat} (h : FS u v i) (ht : TK u s k) : TK v s k := by
  obtain ⟨t1, t2, t3, t4⟩ := ht
  refine ⟨by rw [h.1, t1], by rw [h.1, t2], by rw [h.1, t3], fun c hc => ?_⟩
  rw [h.2.2.1 28 (by omega) (by omega) (by omega) (by omega), h.2.2.1 29 (by omega) (by omega) (by omega) (by omega), h.2.2.1 30 (by omega) (by omega) (by omega) (by omega)]
  exact t4 c hc
theorem TK_R {u : gSt} {s : GS} {k a : Nat} {f : Nat → Int32} (ha : 31 ≤ a) (ht : TK u s k) : TK (gsR u a f) s k := by
  obtain ⟨t1, t2, t3, t4⟩ := ht
  refine ⟨t1, t2, t3, fun c hc => ?_⟩
  rw [gsR_b (by omega), gsR_b (by omega), gsR_b (by omega)]
  exact t4 c hc
theorem Wv_R {u : gSt} {a r x : Nat} {f : Nat → Int32} (h : r ≠ a) (hw : Wv u r x) : Wv (gsR u a f) r x := ⟨hw.1, fun i hi => by rw [gsR_b h]; exact hw.2 i hi⟩
/-- what stands after the chances: candidates, all, chances, the order -/
def KB (u v : gSt) (s : GS) : Prop := FK u v ∧ TK v s (z_m s) ∧ Wv v 33 (z_A s) ∧ (∀ c, c < z_m s → Sl v c (z_x s c) 1) ∧ ∀ j, j < z_m s → v.2.2.1 34 j = nI (z_b s j)
theorem KB_S {u v w : gSt} {s : GS} {i : Nat} (hs : Gd s) (h : KB u v s) (hf : FS v w i) (hi : 200 ≤ i) : KB u w s := by
  obtain ⟨h1, h2, h3, h4, h5⟩ := h
  have := z_m_le hs
  exact ⟨FK_t h1 (FK_S hf), TK_S hf h2, FS_v hf (by decide) (by decide) (by decide) (by omega) h3, fun c hc => FS_l hf (by omega) (h4 c hc), fun j hj => by rw [hf.2.2.1 34 (by decide) (by decide) (by decide) (by omega)]; exact h5 j hj⟩
theorem p_chances {u v : gSt} {s : GS} (hs : Gd s) (hf : FK u v) (ht : TK v s (z_m s)) (hw : Wv v 33 (z_A s)) : ∃ w, gLp M_Ranking_rank_L30 (nI 0, v) = some w ∧ FK u w ∧ TK w s (z_m s) ∧ Wv w 33 (z_A s) ∧ ∀ c, c < z_m s → Sl w c (z_x s c) 1 ∧ w.2.2.1 34 c = nI c := by
  have hm := z_m_le hs
  refine lp_rel (f := M_Ranking_rank_L30) (Po := fun w : gSt => FK u w ∧ TK w s (z_m s) ∧ Wv w 33 (z_A s) ∧ ∀ c, c < z_m s → Sl w c (z_x s c) 1 ∧ w.2.2.1 34 c = nI c) (fun i (x : Int32 × gSt) => x.1 = nI i ∧ FK u x.2 ∧ TK x.2 s (z_m s) ∧ Wv x.2 33 (z_A s) ∧ ∀ c, c < i → Sl x.2 c (z_x s c) 1 ∧ x.2.2.2.1 34 c = nI c) (z_m s) 0 (z_m s) (by omega) (fun i x _ hi hx => ?_) (fun x hx => ?_) (nI 0, v) ⟨rfl, hf, ht, hw, fun c hc => absurd hc (Nat.not_lt_zero _)⟩
  · obtain ⟨x1, y⟩ := x
    obtain ⟨rfl, f1, t1, w1, s1⟩ := hx
    have t1' : TK y s (z_m s) := t1
    obtain ⟨w, e, fs, sl⟩ := p_reckon (u := y) (c := i) (N := s_n s) (n := z_n s) (hh := z_h s) (kk := z_k s) (by omega) t1.1 t1.2.1 hs.2.1 (z_n_le s) (fun k hk => ⟨(t1.2.2.2 k (by omega)).2.1, (t1.2.2.2 k (by omega)).2.2, z_ok s k⟩) (fun k hk => (s1 k hk).1)
    refine ⟨(nI (i + 1), gsR w 34 (upd (w.2.2.1 34) i (nI i))), ?_, rfl, FK_t (FK_t f1 (FK_S fs)) (FK_R (by omega)), TK_R (by omega) (TK_S fs t1'), Wv_R (by decide) (FS_v fs (by decide) (by decide) (by decide) (by omega) w1), fun c hc => ?_⟩
    · show M_Ranking_rank_b30 (nI i) y = _
      unfold M_Ranking_rank_b30
      rw [t1'.2.2.1, if_neg (by rw [qi_le (by omega) (by omega)]; omega), e, Option.bind_some, gc_t (qi_in (n := gLen 34) (by omega) (show i < 200 by omega)), qi_ix (by omega), gsA_R, show (1 : Int32) = nI 1 from rfl, qi_add]
      rfl
    · show Sl (gsR w 34 (upd (w.2.2.1 34) i (nI i))) c (z_x s c) 1 ∧ (gsR w 34 (upd (w.2.2.1 34) i (nI i))).2.2.1 34 c = nI c
      rw [gsR_a]
      by_cases ec : c = i
      · subst ec
        exact ⟨Sl_R (Or.inl rfl) sl, pk_us⟩
      · rw [pk_un ec]
        refine ⟨Sl_R (Or.inl rfl) (FS_l fs ec (s1 c (by omega)).1), ?_⟩
        rw [fs.2.2.1 34 (by decide) (by decide) (by decide) (by omega)]
        exact (s1 c (by omega)).2
  · obtain ⟨x1, y⟩ := x
    obtain ⟨rfl, f1, t1, w1, s1⟩ := hx
    have t1' : TK y s (z_m s) := t1
    refine ⟨y, ?_, f1, t1, w1, s1⟩
    show M_Ranking_rank_b30 (nI (z_m s)) y = _
    unfold M_Ranking_rank_b30
    rw [t1'.2.2.1, if_pos ((qi_le (by omega) (by omega)).mpr (Nat.le_refl _))]
theorem FK_sc {u : gSt} {f g : Nat → Int32} : FK u (sc u f g) := FK_S (i := 0) FS_sc
theorem p_sortC {u v : gSt} {s : GS} (hs : Gd s) (hf : FK u v) (ht : TK v s (z_m s)) (hw : Wv v 33 (z_A s)) (hx : ∀ c, c < z_m s → Sl v c (z_x s c) 1 ∧ v.2.2.1 34 c = nI c) : ∃ w, M_Ranking_sort 34 (nI (z_m s)) (0 : Int32) v = some w ∧ KB u w s := by
  have hm := z_m_le hs
  obtain ⟨f', t1, t2, e, h⟩ := p_srt (u := v) (f := v.2.2.1 34) (a := 34) (cn := z_m s) (va := 0) (nu := z_x s) (de := fun _ => 1) (A := fun c => c) (Or.inl rfl) hm (by decide) (fun k hk => (hx k hk).2) (fun k hk => by omega) (fun k hk => by rw [Nat.mul_zero, Nat.zero_add]; exact (hx k hk).1) (v.2.2.1 36) (v.2.2.1 37)
  rw [gsR_0 rfl, sc_0] at e
  have fs : FS (gsR v 34 f') (sc (gsR v 34 f') t1 t2) 300 := FS_sc
  refine ⟨_, e, FK_t (FK_t hf (FK_R (by omega))) FK_sc, TK_S fs (TK_R (by omega) ht), FS_v fs (by decide) (by decide) (by decide) (by decide) (Wv_R (by decide) hw), fun c hc => FS_l fs (by omega) (Sl_R (Or.inl rfl) (hx c hc).1), fun j hj => ?_⟩
  rw [sc_o (by decide) (by decide), gsR_a]
  exact h j hj
theorem p_times {u v : gSt} {s : GS} (hs : Gd s) (hk : KB u v s) : ∃ w, gLp M_Ranking_rank_L71 (nI 0, v) = some w ∧ KB u w s ∧ ∀ c, c < z_m s → Sl w (200 * 1 + c) (capN (z_x s c) (z_A s) (z_m s) 1) 1 := by
  have hm := z_m_le hs
  refine lp_rel (f := M_Ranking_rank_L71) (Po := fun w : gSt => KB u w s ∧ ∀ c, c < z_m s → Sl w (200 * 1 + c) (capN (z_x s c) (z_A s) (z_m s) 1) 1) (fun i (x : Int32 × gSt) => x.1 = nI i ∧ KB u x.2 s ∧ ∀ c, c < i → Sl x.2 (200 * 1 + c) (capN (z_x s c) (z_A s) (z_m s) 1) 1) (z_m s) 0 (z_m s) (by omega) (fun i x _ hi hx => ?_) (fun x hx => ?_) (nI 0, v) ⟨rfl, hk, fun c hc => absurd hc (Nat.not_lt_zero _)⟩
  · obtain ⟨x1, y⟩ := x
    obtain ⟨rfl, k1, s1⟩ := hx
    have k1' : KB u y s := k1
    obtain ⟨w, e, fs, sl⟩ := p_capped (u := y) (i := 200 * 1 + i) (c := i) (x := z_x s i) (all := z_A s) (t := z_m s) (b := 1) (by omega) (by omega) (k1'.2.2.2.1 i hi) (Nat.le_trans (z_x_le s i) (z_A_le hs)) k1'.2.2.1 (z_A_le hs) hm (by decide) (by decide)
    rw [capD_1] at sl
    refine ⟨(nI (i + 1), w), ?_, rfl, KB_S hs k1' fs (by omega), fun c hc => ?_⟩
    · show M_Ranking_rank_b71 (nI i) y = _
      unfold M_Ranking_rank_b71
      rw [k1'.2.1.2.2.1, if_neg (by rw [qi_le (by omega) (by omega)]; omega), show (1 : Int32) = nI 1 from rfl, slot_n, Option.bind_some]
      show ((M_Ranking_setCapped (nI (200 * 1 + i)) (nI i) (y.1 27 12) (nI 1) y).bind fun q91 => some (Sum.inl (nI i + nI 1, q91))) = _
      rw [k1'.2.1.2.2.1, e, Option.bind_some, qi_add]
    · by_cases ec : c = i
      · subst ec
        exact sl
      · exact FS_l fs (by omega) (s1 c (by omega))
  · obtain ⟨x1, y⟩ := x
    obtain ⟨rfl, k1, s1⟩ := hx
    have k1' : KB u y s := k1
    refine ⟨y, ?_, k1, s1⟩
    show M_Ranking_rank_b71 (nI (z_m s)) y = _
    unfold M_Ranking_rank_b71
    rw [k1'.2.1.2.2.1, if_pos ((qi_le (by omega) (by omega)).mpr (Nat.le_refl _))]
