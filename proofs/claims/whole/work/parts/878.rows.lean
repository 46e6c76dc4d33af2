/-! The class's rows of a report. -/
noncomputable def z_p (s : GS) (c : Nat) : Nat := if h : ∃ j, j < z_m s ∧ z_b s j = c then Classical.choose h else 0
theorem z_p_ok {s : GS} {c : Nat} (h : c < z_m s) : z_p s c < z_m s ∧ z_b s (z_p s c) = c := by
  have h2 := z_b_to h
  unfold z_p
  rw [dif_pos h2]
  exact Classical.choose_spec h2
theorem z_p_b {s : GS} {j : Nat} (h : j < z_m s) : z_p s (z_b s j) = j := by
  obtain ⟨h1, h2⟩ := z_p_ok (z_b_lt h)
  by_cases c : z_p s (z_b s j) = j
  · exact c
  · exact absurd h2 (z_b_ne h1 h c)
noncomputable def cN (s : GS) (v c : Nat) : Nat := zN s v (z_p s c)
noncomputable def cD (s : GS) (v c : Nat) : Nat := zD s v (z_p s c)
noncomputable def z_w (s : GS) (v n d : Nat) (c : Nat) : Bool := decide (cN s v c * d ≤ z_A s * cD s v c * n)
noncomputable def z_r (s : GS) (v n d : Nat) : Nat := cnt (z_w s v n d) (z_m s)
noncomputable def z_o (s : GS) (v n d : Nat) (k : Nat) : Nat := dsort (fle (cN s v) (cD s v)) (na (z_w s v n d) (z_m s)) (z_r s v n d) k
theorem RK_c {u : gSt} {s : GS} {v c : Nat} (h : RK u s) (hv : v < 4) (hc : c < z_m s) : Sl u (200 * v + c) (cN s v c) (cD s v c) := by
  obtain ⟨h1, h2⟩ := z_p_ok hc
  have := h.2.2 v (z_p s c) hv h1
  rw [h2] at this
  exact this
def FC (u w : gSt) : Prop := (∀ a j, a ≠ 27 ∨ j ≠ 13 → w.1 a j = u.1 a j) ∧ w.2.1 = u.2.1 ∧ (∀ a, a ≠ 35 → a ≠ 36 → a ≠ 37 → w.2.2.1 a = u.2.2.1 a) ∧ w.2.2.2 = u.2.2.2
theorem FC_0 {u : gSt} : FC u u := ⟨fun _ _ _ => rfl, rfl, fun _ _ _ _ => rfl, rfl⟩
theorem FC_t {u v w : gSt} (h : FC u v) (k : FC v w) : FC u w := ⟨fun a j e => by rw [k.1 a j e, h.1 a j e], by rw [k.2.1, h.2.1], fun a e1 e2 e3 => by rw [k.2.2.1 a e1 e2 e3, h.2.2.1 a e1 e2 e3], by rw [k.2.2.2, h.2.2.2]⟩
theorem FC_sc {u : gSt} {f g : Nat → Int32} : FC u (sc u f g) := ⟨fun _ _ _ => rfl, rfl, fun a _ e2 e3 => sc_o e2 e3, rfl⟩
theorem FC_R {u : gSt} {f : Nat → Int32} : FC u (gsR u 35 f) := ⟨fun _ _ _ => rfl, rfl, fun a e1 _ _ => gsR_b e1, rfl⟩
theorem FC_F {u : gSt} {x : Int32} : FC u (gsF u 27 13 x) := ⟨fun a j e => gF_o e, rfl, fun _ _ _ _ => rfl, rfl⟩
theorem FC_W {u v : gSt} {r x : Nat} (h : FC u v) (h1 : r ≠ 35) (h2 : r ≠ 36) (h3 : r ≠ 37) (hw : Wv u r x) : Wv v r x := ⟨hw.1, fun i hi => by rw [h.2.2.1 r h1 h2 h3]; exact hw.2 i hi⟩
theorem FC_S {u v : gSt} {i a p : Nat} (h : FC u v) (hs : Sl u i a p) : Sl v i a p := ⟨FC_W h (by omega) (by omega) (by omega) hs.1, by rw [h.2.2.1 32 (by decide) (by decide) (by decide)]; exact hs.2.1, hs.2.2⟩
theorem RK_C {u v : gSt} {s : GS} (h : FC u v) (hr : RK u s) : RK v s := by
  obtain ⟨⟨t1, t2, t3, t4⟩, w, sl⟩ := hr
  refine ⟨⟨by rw [h.1 27 10 (by omega), t1], by rw [h.1 27 11 (by omega), t2], by rw [h.1 27 12 (by omega), t3], fun c hc => ?_⟩, FC_W h (by decide) (by decide) (by decide) w, fun v j hv hj => FC_S h (sl v j hv hj)⟩
  rw [h.2.2.1 28 (by decide) (by decide) (by decide), h.2.2.1 29 (by decide) (by decide) (by decide), h.2.2.1 30 (by decide) (by decide) (by decide)]
  exact t4 c hc
theorem p_withV {u : gSt} {i a p n d A : Nat} (hi : i < 800) (h1 : Sl u i a p) (hA : Wv u 33 A) (hA2 : A ≤ 2 ^ 200) (hn : n < 2147483648) (hd : d < 2147483648) : ∃ v, M_Ranking_isWithin (nI i) (nI n) (nI d) u = some (b2i (decide (a * d ≤ A * p * n)), v) ∧ ∃ f g, v = sc u f g := by
  obtain ⟨f, g, e⟩ := p_within (u := u) (f := u.2.2.1 36) (g := u.2.2.1 37) hi h1 hA hA2 hn hd
  rw [sc_0] at e
  exact ⟨_, e, f, g, rfl⟩
theorem p_choose {u : gSt} {s : GS} {v n d : Nat} (hs : Gd s) (hr : RK u s) (hv : v < 4) (hn : n < 2147483648) (hd : d < 2147483648) : ∃ w, M_Ranking_chooseRows (nI v) (nI n) (nI d) u = some w ∧ FC u w ∧ w.1 27 13 = nI (z_r s v n d) ∧ ∀ k, k < z_r s v n d → w.2.2.1 35 k = nI (z_o s v n d k) := by
  have hm := z_m_le hs
  have hR : z_r s v n d ≤ z_m s := cnt_le _
  obtain ⟨y, e, h1, fc, h2, h3⟩ := lp_rel (f := M_Ranking_chooseRows_L8) (Po := fun y : Int32 × gSt => y.1 = nI v ∧ FC u y.2 ∧ y.2.1 27 13 = nI (z_r s v n d) ∧ ∀ k, k < z_r s v n d → y.2.2.2.1 35 k = nI (na (z_w s v n d) (z_m s) k)) (fun i (x : Int32 × Int32 × Int32 × Int32 × gSt) => x.1 = nI v ∧ x.2.1 = nI n ∧ x.2.2.1 = nI d ∧ x.2.2.2.1 = nI i ∧ FC u x.2.2.2.2 ∧ x.2.2.2.2.1 27 13 = nI (cnt (z_w s v n d) i) ∧ ∀ k, k < cnt (z_w s v n d) i → x.2.2.2.2.2.2.1 35 k = nI (na (z_w s v n d) (z_m s) k)) (z_m s) 0 (z_m s) (by omega) (fun i x _ hi hx => by
    obtain ⟨x1, x2, x3, x4, y⟩ := x
    obtain ⟨rfl, rfl, rfl, rfl, fc, h13, h35⟩ := hx
    have fc' : FC u y := fc
    have h13' : y.1 27 13 = nI (cnt (z_w s v n d) i) := h13
    have h35' : ∀ k, k < cnt (z_w s v n d) i → y.2.2.1 35 k = nI (na (z_w s v n d) (z_m s) k) := h35
    have hr' := RK_C fc' hr
    have hci : cnt (z_w s v n d) i < 200 := by
      have := cnt_le (P := z_w s v n d) i
      omega
    obtain ⟨w, ew, f, g, rfl⟩ := p_withV (u := y) (i := 200 * v + i) (n := n) (d := d) (by omega) (RK_c hr' hv hi) hr'.2.1 (z_A_le hs) hn hd
    have hun : M_Ranking_chooseRows_b8 (nI v) (nI n) (nI d) (nI i) y = if b2i (z_w s v n d i) = (0 : Int32) then some (.inl (nI v, nI n, nI d, nI (i + 1), sc y f g)) else some (.inl (nI v, nI n, nI d, nI (i + 1), gsF (gsR (sc y f g) 35 (upd (y.2.2.1 35) (cnt (z_w s v n d) i) (nI i))) 27 13 (nI (cnt (z_w s v n d) i + 1)))) := by
      unfold M_Ranking_chooseRows_b8 M_Ranking_chooseRows_b53
      rw [hr'.1.2.2.1, if_neg (by rw [qi_le (by omega) (by omega)]; omega), slot_n, Option.bind_some, ew, Option.bind_some]
      show (if b2i (z_w s v n d i) = (0 : Int32) then some (Sum.inl (nI v, nI n, nI d, nI i + nI 1, sc y f g)) else (gc (gIn (y.1 27 13) (gLen 35)) <| some (Sum.inl (nI v, nI n, nI d, nI i + nI 1, gsF (gsA (sc y f g) 35 (gIx (y.1 27 13)) (nI i)) 27 13 (y.1 27 13 + nI 1))))) = _
      rw [h13', gc_t (qi_in (n := gLen 35) (by omega) (show _ < 200 from hci)), qi_ix (by omega), qi_add, qi_add, gsA_R, sc_o (by decide) (by decide)]
    cases ez : z_w s v n d i
    · refine ⟨(nI v, nI n, nI d, nI (i + 1), sc y f g), ?_, rfl, rfl, rfl, rfl, FC_t fc' FC_sc, ?_, ?_⟩
      · show M_Ranking_chooseRows_b8 (nI v) (nI n) (nI d) (nI i) y = _
        rw [hun, ez, if_pos (show b2i false = (0 : Int32) from rfl)]
      · show y.1 27 13 = _
        rw [cnt_s0 ez, h13']
      · rw [cnt_s0 ez]
        show ∀ k, k < cnt (z_w s v n d) i → (sc y f g).2.2.1 35 k = _
        rw [sc_o (by decide) (by decide)]
        exact h35'
    · refine ⟨(nI v, nI n, nI d, nI (i + 1), gsF (gsR (sc y f g) 35 (upd (y.2.2.1 35) (cnt (z_w s v n d) i) (nI i))) 27 13 (nI (cnt (z_w s v n d) i + 1))), ?_, rfl, rfl, rfl, rfl, FC_t fc' (FC_t FC_sc (FC_t FC_R FC_F)), ?_, ?_⟩
      · show M_Ranking_chooseRows_b8 (nI v) (nI n) (nI d) (nI i) y = _
        rw [hun, ez, if_neg (by decide)]
      · show (gsF (gsR (sc y f g) 35 (upd (y.2.2.1 35) (cnt (z_w s v n d) i) (nI i))) 27 13 (nI (cnt (z_w s v n d) i + 1))).1 27 13 = _
        rw [gF_a, cnt_s1 ez]
      · rw [cnt_s1 ez]
        intro k hk
        show (gsR (sc y f g) 35 (upd (y.2.2.1 35) (cnt (z_w s v n d) i) (nI i))).2.2.1 35 k = _
        rw [gsR_a]
        by_cases ek : k = cnt (z_w s v n d) i
        · rw [ek, pk_us, na_at ez hi]
        · rw [pk_un ek]
          exact h35' k (by omega)) (fun x hx => by
    obtain ⟨x1, x2, x3, x4, y⟩ := x
    obtain ⟨rfl, rfl, rfl, rfl, fc, h13, h35⟩ := hx
    have hr' : RK y s := RK_C fc hr
    refine ⟨(nI v, y), ?_, rfl, fc, h13, h35⟩
    show M_Ranking_chooseRows_b8 (nI v) (nI n) (nI d) (nI (z_m s)) y = _
    unfold M_Ranking_chooseRows_b8
    rw [hr'.1.2.2.1, if_pos ((qi_le (by omega) (by omega)).mpr (Nat.le_refl _))]) (nI v, nI n, nI d, nI 0, gsF u 27 13 (nI 0)) ⟨rfl, rfl, rfl, rfl, FC_F, gF_a, fun k hk => absurd hk (Nat.not_lt_zero _)⟩
  obtain ⟨y1, y⟩ := y
  have h1' : y1 = nI v := h1
  have fc' : FC u y := fc
  have h2' : y.1 27 13 = nI (z_r s v n d) := h2
  have h3' : ∀ k, k < z_r s v n d → y.2.2.1 35 k = nI (na (z_w s v n d) (z_m s) k) := h3
  subst h1'
  have hr' := RK_C fc' hr
  obtain ⟨f', t1, t2, e5, h5⟩ := p_srt (u := y) (f := y.2.2.1 35) (a := 35) (cn := z_r s v n d) (va := v) (nu := cN s v) (de := cD s v) (A := na (z_w s v n d) (z_m s)) (Or.inr rfl) (by omega) hv h3' (fun k hk => by have := (na_ok _ _ hk).1; omega) (fun k hk => RK_c hr' hv (na_ok _ _ hk).1) (y.2.2.1 36) (y.2.2.1 37)
  rw [gsR_0 rfl, sc_0] at e5
  refine ⟨sc (gsR y 35 f') t1 t2, ?_, FC_t fc' (FC_t FC_R FC_sc), h2', fun k hk => ?_⟩
  · unfold M_Ranking_chooseRows
    show ((gLp M_Ranking_chooseRows_L8 (nI v, nI n, nI d, nI 0, gsF u 27 13 (nI 0))).bind _) = _
    rw [e, Option.bind_some]
    show ((M_Ranking_sort 35 (y.1 27 13) (nI v) y).bind fun q69 => some q69) = _
    rw [h2', e5]
    rfl
  · rw [sc_o (by decide) (by decide), gsR_a]
    exact h5 k hk
