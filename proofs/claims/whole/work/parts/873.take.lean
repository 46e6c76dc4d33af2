/-! The class's candidates, taken from the board. -/
/-- the c-th of those below T of which P is true -/
def na (P : Nat → Bool) : Nat → Nat → Nat
  | 0, _ => 0
  | T + 1, c => if P T = true ∧ c = cnt P T then T else na P T c
theorem cnt_s1 {P : Nat → Bool} {t : Nat} (h : P t = true) : cnt P (t + 1) = cnt P t + 1 := by
  show cnt P t + (if P t then 1 else 0) = _
  rw [if_pos h]
theorem cnt_s0 {P : Nat → Bool} {t : Nat} (h : P t = false) : cnt P (t + 1) = cnt P t := by
  show cnt P t + (if P t then 1 else 0) = _
  rw [h]
  rfl
theorem cnt_up {P : Nat → Bool} {t : Nat} : ∀ d, cnt P t ≤ cnt P (t + d)
  | 0 => Nat.le_refl _
  | d + 1 => Nat.le_trans (cnt_up d) (Nat.le_add_right _ _)
theorem cnt_up2 {P : Nat → Bool} {t T : Nat} (h : t ≤ T) : cnt P t ≤ cnt P T := by
  have := cnt_up (P := P) (t := t) (T - t)
  rwa [show t + (T - t) = T by omega] at this
theorem na_hi {P : Nat → Bool} {c : Nat} : ∀ T t, t ≤ T → c < cnt P t → na P T c = na P t c
  | 0, t, h, hc => by rw [show t = 0 by omega]
  | T + 1, t, h, hc => by
    by_cases e : t = T + 1
    · rw [e]
    · have h2 : cnt P t ≤ cnt P T := cnt_up2 (by omega)
      show (if P T = true ∧ c = cnt P T then T else na P T c) = _
      rw [if_neg (by omega)]
      exact na_hi T t (by omega) hc
theorem na_at {P : Nat → Bool} {t T : Nat} (h : P t = true) (ht : t < T) : na P T (cnt P t) = t := by
  rw [na_hi T (t + 1) ht (by rw [cnt_s1 h]; omega)]
  show (if P t = true ∧ cnt P t = cnt P t then t else _) = t
  rw [if_pos ⟨h, rfl⟩]
theorem na_ok {P : Nat → Bool} : ∀ T c, c < cnt P T → na P T c < T ∧ P (na P T c) = true ∧ cnt P (na P T c) = c
  | 0, c, h => absurd h (Nat.not_lt_zero _)
  | T + 1, c, h => by
    show (if P T = true ∧ c = cnt P T then T else na P T c) < T + 1 ∧ P (if P T = true ∧ c = cnt P T then T else na P T c) = true ∧ cnt P (if P T = true ∧ c = cnt P T then T else na P T c) = c
    by_cases e : P T = true ∧ c = cnt P T
    · rw [if_pos e]
      exact ⟨by omega, e.1, e.2.symm⟩
    · rw [if_neg e]
      have h2 : c < cnt P T := by
        by_cases e1 : P T = true
        · rw [cnt_s1 e1] at h
          have : c ≠ cnt P T := fun e2 => e ⟨e1, e2⟩
          omega
        · rw [cnt_s0 (by simpa using e1)] at h
          exact h
      obtain ⟨a, b, d⟩ := na_ok T c h2
      exact ⟨by omega, b, d⟩
theorem na_lt {P : Nat → Bool} {T c d : Nat} (hd : d < cnt P T) (h : c < d) : na P T c < na P T d := by
  obtain ⟨a1, a2, a3⟩ := na_ok (P := P) T c (by omega)
  obtain ⟨b1, b2, b3⟩ := na_ok (P := P) T d hd
  by_cases e : na P T c < na P T d
  · exact e
  · have := cnt_up2 (P := P) (show na P T d ≤ na P T c by omega)
    omega
/-! the numbers of a ranking -/
def z_n (s : GS) : Nat := cnt (s_st s) (s_n s)
def z_m (s : GS) : Nat := cnt (s_can s) (s_t s)
def z_t (s : GS) (c : Nat) : Nat := na (s_can s) (s_t s) c
def z_h (s : GS) (c : Nat) : Nat := s_at s true (z_t s c)
def z_k (s : GS) (c : Nat) : Nat := s_at s false (z_t s c)
def z_x (s : GS) (c : Nat) : Nat := hs (s_n s) (z_k s c) (z_n s) (z_h s c)
def z_A (s : GS) : Nat := ch (s_n s) (z_n s)
theorem cnt_ie {P Q : Nat → Bool} : ∀ k, cnt P k + cnt Q k ≤ cnt (fun j => P j && Q j) k + k
  | 0 => Nat.le_refl _
  | k + 1 => by
    have ih := cnt_ie (P := P) (Q := Q) k
    show (cnt P k + (if P k then 1 else 0)) + (cnt Q k + (if Q k then 1 else 0)) ≤ (cnt (fun j => P j && Q j) k + (if (P k && Q k) then 1 else 0)) + (k + 1)
    cases P k <;> cases Q k <;> simp <;> omega
theorem z_t_lt {s : GS} {c : Nat} (h : c < z_m s) : z_t s c < s_t s ∧ s_can s (z_t s c) = true := ⟨(na_ok _ _ h).1, (na_ok _ _ h).2.1⟩
theorem z_ok (s : GS) (c : Nat) : z_h s c ≤ z_k s c ∧ z_h s c ≤ z_n s ∧ z_k s c ≤ s_n s ∧ z_n s - z_h s c ≤ s_n s - z_k s c := by
  have e0 : z_k s c = cnt (fun g => s_av s g (z_t s c)) (s_n s) := cnt_congr _ (fun j _ => by simp)
  have e1 : z_h s c = cnt (fun g => s_av s g (z_t s c) && s_st s g) (s_n s) := cnt_congr _ (fun j _ => by simp)
  have h1 : z_h s c ≤ z_k s c := by rw [e0, e1]; exact cnt_mono _ (fun j _ h => by simp at h; exact h.1)
  have h2 : z_h s c ≤ z_n s := by rw [e1]; exact cnt_mono _ (fun j _ h => by simp at h; exact h.2)
  have h3 : z_k s c ≤ s_n s := by rw [e0]; exact cnt_le _
  have h4 := cnt_ie (P := fun g => s_av s g (z_t s c)) (Q := s_st s) (s_n s)
  rw [← e0, ← e1] at h4
  refine ⟨h1, h2, h3, ?_⟩
  have h5 : z_k s c + z_n s ≤ z_h s c + s_n s := h4
  omega
theorem z_n_le (s : GS) : z_n s ≤ s_n s := cnt_le _
theorem z_m_le {s : GS} (hs : Gd s) : z_m s ≤ 200 := Nat.le_trans (cnt_le _) hs.1
theorem z_x_le (s : GS) (c : Nat) : z_x s c ≤ z_A s := hs_le (z_ok s c).2.2.1 (z_ok s c).2.1
theorem z_A_le {s : GS} (hs : Gd s) : z_A s ≤ 2 ^ 200 := Nat.le_trans (ch_two _ _) (Nat.pow_le_pow_right (by decide) hs.2.1)
theorem z_A_pos (s : GS) : 0 < z_A s := ch_pos _ _ (z_n_le s)
theorem gF_o {u : gSt} {a k b j : Nat} {v : Int32} (h : b ≠ a ∨ j ≠ k) : (gsF u a k v).1 b j = u.1 b j := by
  show (if b = a then (if j = k then v else u.1 b j) else u.1 b j) = _
  by_cases h1 : b = a
  · rw [if_pos h1, if_neg (by omega)]
  · rw [if_neg h1]
theorem gF_a {u : gSt} {a k : Nat} {v : Int32} : (gsF u a k v).1 a k = v := by
  show (if a = a then (if k = k then v else u.1 a k) else u.1 a k) = _
  rw [if_pos rfl, if_pos rfl]
/-! the frame of the class's ranking -/
def FK (u w : gSt) : Prop := (∀ a j, a ≠ 27 ∨ 13 ≤ j → w.1 a j = u.1 a j) ∧ w.2.1 = u.2.1 ∧ (∀ a, a < 28 ∨ a = 35 ∨ (38 ≤ a ∧ a < 67) → w.2.2.1 a = u.2.2.1 a) ∧ w.2.2.2 = u.2.2.2
theorem FK_0 {u : gSt} : FK u u := ⟨fun _ _ _ => rfl, rfl, fun _ _ => rfl, rfl⟩
theorem FK_t {u v w : gSt} (h : FK u v) (k : FK v w) : FK u w := ⟨fun a j e => by rw [k.1 a j e, h.1 a j e], by rw [k.2.1, h.2.1], fun a e => by rw [k.2.2.1 a e, h.2.2.1 a e], by rw [k.2.2.2, h.2.2.2]⟩
theorem FK_S {u v : gSt} {i : Nat} (h : FS u v i) : FK u v := ⟨fun a j _ => by rw [h.1], h.2.1, fun a e => h.2.2.1 a (by omega) (by omega) (by omega) (by omega), h.2.2.2.2⟩
theorem FK_R {u : gSt} {a : Nat} {f : Nat → Int32} (h : ¬ (a < 28 ∨ a = 35 ∨ (38 ≤ a ∧ a < 67))) : FK u (gsR u a f) := ⟨fun _ _ _ => rfl, rfl, fun b e => gsR_b (fun e2 => h (e2 ▸ e)), rfl⟩
theorem FK_F {u : gSt} {j : Nat} {x : Int32} (h : j < 13) : FK u (gsF u 27 j x) := by
  exact ⟨fun a k e => gF_o (by omega), rfl, fun _ _ => rfl, rfl⟩
theorem gb_L {u v : gSt} (h : v.2.2.2 = u.2.2.2) {r x y : Nat} : gb v r x y = gb u r x y := by
  unfold gb
  rw [h]
theorem Dg_K {u v : gSt} {s : GS} (h : FK u v) (hd : Dg u s) : Dg v s := by
  obtain ⟨d1, d2, d3, d4, d5, d6, d7, d8, d9, d10⟩ := hd
  exact ⟨by rw [h.1 4 9 (Or.inl (by decide)), d1], by rw [h.1 9 3 (Or.inl (by decide)), d2], by rw [h.1 4 10 (Or.inl (by decide)), d3], by rw [h.1 4 11 (Or.inl (by decide)), d4], fun x y a b => by rw [gb_L h.2.2.2, d5 x y a b], fun x y a b => by rw [gb_L h.2.2.2, d6 x y a b], fun x y a b => by rw [gb_L h.2.2.2, d7 x y a b], fun x y a b => by rw [gb_L h.2.2.2, d8 x y a b], fun y a => by rw [gb_L h.2.2.2, d9 y a], fun y a => by rw [gb_L h.2.2.2, d10 y a]⟩
/-- the first k of the class's candidates -/
def TK (u : gSt) (s : GS) (k : Nat) : Prop := u.1 27 10 = nI (s_n s) ∧ u.1 27 11 = nI (z_n s) ∧ u.1 27 12 = nI k ∧ ∀ c, c < k → u.2.2.1 28 c = nI (z_t s c) ∧ u.2.2.1 29 c = nI (z_h s c) ∧ u.2.2.1 30 c = nI (z_k s c)
def tkS (u : gSt) (c t h k : Nat) : gSt := gsF (gsA (gsA (gsA u 28 c (nI t)) 29 c (nI h)) 30 c (nI k)) 27 12 (nI (c + 1))
theorem tkS_K {u : gSt} {c t h k : Nat} : FK u (tkS u c t h k) := by
  unfold tkS
  refine FK_t ?_ (FK_F (by decide))
  rw [gsA_R, gsA_R, gsA_R]
  exact FK_t (FK_R (by omega)) (FK_t (FK_R (by omega)) (FK_R (by omega)))
theorem tkS_A {u : gSt} {c t h k : Nat} : (tkS u c t h k).2.2.1 28 = upd (u.2.2.1 28) c (nI t) ∧ (tkS u c t h k).2.2.1 29 = upd (u.2.2.1 29) c (nI h) ∧ (tkS u c t h k).2.2.1 30 = upd (u.2.2.1 30) c (nI k) := by
  unfold tkS
  rw [gsA_R, gsA_R, gsA_R]
  refine ⟨?_, ?_, ?_⟩
  · show (gsR (gsR (gsR u 28 _) 29 _) 30 _).2.2.1 28 = _
    rw [gsR_b (by decide), gsR_b (by decide), gsR_a]
  · show (gsR (gsR (gsR u 28 _) 29 _) 30 _).2.2.1 29 = _
    rw [gsR_b (by decide), gsR_a, gsR_b (by decide)]
  · show (gsR (gsR (gsR u 28 _) 29 _) 30 _).2.2.1 30 = _
    rw [gsR_a, gsR_b (by decide), gsR_b (by decide)]
theorem tkS_F {u : gSt} {c t h k j : Nat} (hj : j ≠ 12) : (tkS u c t h k).1 27 j = u.1 27 j := by
  unfold tkS
  rw [gF_o (Or.inr hj)]
  rfl
theorem tkS_12 {u : gSt} {c t h k : Nat} : (tkS u c t h k).1 27 12 = nI (c + 1) := by
  exact gF_a
theorem p_take {u : gSt} {s : GS} (hd : Dg u s) (hs : Gd s) : ∃ v, M_Ranking_takeCandidates u = some v ∧ FK u v ∧ TK v s (z_m s) := by
  have hT := hs.1
  have key := lp_rel (f := M_Ranking_takeCandidates_L23) (Po := fun v : gSt => FK u v ∧ TK v s (z_m s)) (fun t (x : Int32 × gSt) => x.1 = nI t ∧ FK u x.2 ∧ TK x.2 s (cnt (s_can s) t)) (s_t s) 0 (s_t s) (by omega) (fun t x _ ht hx => by
    obtain ⟨x1, v⟩ := x
    obtain ⟨rfl, hf, t1, t2, t3, t4⟩ := hx
    have hd2 := Dg_K hf hd
    have hc : cnt (s_can s) t < 200 := by
      have := cnt_le (P := s_can s) t
      omega
    by_cases e : s_can s t = true
    · refine ⟨(nI (t + 1), tkS v (cnt (s_can s) t) t (s_at s true t) (s_at s false t)), ?_, rfl, FK_t hf tkS_K, ?_, ?_, ?_, ?_⟩
      · show M_Ranking_takeCandidates_b23 (nI t) v = _
        unfold M_Ranking_takeCandidates_b23 M_Ranking_takeCandidates_b87
        rw [hd2.1, if_neg (by rw [qi_le (by omega) (by omega)]; omega), p_cand hd2 hs ht, e, Option.bind_some]
        have t3' : v.1 27 12 = nI (cnt (s_can s) t) := t3
        show (if (1 : Int32) = 0 then some (Sum.inl (nI t + 1, v)) else (gc (gIn (v.1 27 12) (gLen 28)) <| (M_Board_studiedAt (nI t) (gsA v 28 (gIx (v.1 27 12)) (nI t))).bind fun q59 => gc (gIn (v.1 27 12) (gLen 29)) <| (M_Board_genesAt (nI t) (gsA q59.2 29 (gIx (v.1 27 12)) q59.1)).bind fun q73 => gc (gIn ((gsA q59.2 29 (gIx (v.1 27 12)) q59.1).1 27 12) (gLen 30)) <| some (Sum.inl (nI t + 1, gsF (gsA q73.2 30 (gIx ((gsA q59.2 29 (gIx (v.1 27 12)) q59.1).1 27 12)) q73.1) 27 12 ((gsA q73.2 30 (gIx ((gsA q59.2 29 (gIx (v.1 27 12)) q59.1).1 27 12)) q73.1).1 27 12 + 1))))) = _
        have da : Dg (gsA v 28 (cnt (s_can s) t) (nI t)) s := Dg_K (by rw [gsA_R]; exact FK_R (by omega)) hd2
        have db : Dg (gsA (gsA v 28 (cnt (s_can s) t) (nI t)) 29 (cnt (s_can s) t) (nI (s_at s true t))) s := Dg_K (by rw [gsA_R (a := 29)]; exact FK_R (by omega)) da
        rw [if_neg (by decide), t3', gc_t (qi_in (n := gLen 28) (by omega) (show _ < 200 from hc)), qi_ix (by omega), p_studiedAt da hs ht, Option.bind_some, gc_t (qi_in (n := gLen 29) (by omega) (show _ < 200 from hc))]
        show ((M_Board_genesAt (nI t) (gsA (gsA v 28 (cnt (s_can s) t) (nI t)) 29 (cnt (s_can s) t) (nI (s_at s true t)))).bind fun q73 => gc (gIn (v.1 27 12) (gLen 30)) <| some (Sum.inl (nI t + 1, gsF (gsA q73.2 30 (gIx (v.1 27 12)) q73.1) 27 12 ((gsA q73.2 30 (gIx (v.1 27 12)) q73.1).1 27 12 + 1)))) = _
        rw [p_at db hs ht, Option.bind_some, t3', gc_t (qi_in (n := gLen 30) (by omega) (show _ < 200 from hc)), qi_ix (by omega)]
        show some (Sum.inl (nI t + 1, gsF (gsA (gsA (gsA v 28 (cnt (s_can s) t) (nI t)) 29 (cnt (s_can s) t) (nI (s_at s true t))) 30 (cnt (s_can s) t) (nI (s_at s false t))) 27 12 (v.1 27 12 + 1))) = _
        rw [t3', show (1 : Int32) = nI 1 from rfl, qi_add, qi_add]
        rfl
      · show (tkS v (cnt (s_can s) t) t (s_at s true t) (s_at s false t)).1 27 10 = _
        rw [tkS_F (by decide)]
        exact t1
      · show (tkS v (cnt (s_can s) t) t (s_at s true t) (s_at s false t)).1 27 11 = _
        rw [tkS_F (by decide)]
        exact t2
      · show (tkS v (cnt (s_can s) t) t (s_at s true t) (s_at s false t)).1 27 12 = _
        rw [tkS_12, cnt_s1 e]
      · intro c hc2
        rw [cnt_s1 e] at hc2
        show (tkS v (cnt (s_can s) t) t (s_at s true t) (s_at s false t)).2.2.1 28 c = _ ∧ (tkS v (cnt (s_can s) t) t (s_at s true t) (s_at s false t)).2.2.1 29 c = _ ∧ (tkS v (cnt (s_can s) t) t (s_at s true t) (s_at s false t)).2.2.1 30 c = _
        rw [tkS_A.1, tkS_A.2.1, tkS_A.2.2]
        by_cases ec : c = cnt (s_can s) t
        · have hz : z_t s c = t := by rw [ec]; exact na_at e ht
          unfold z_h z_k
          rw [hz, ec, pk_us, pk_us, pk_us]
          exact ⟨rfl, rfl, rfl⟩
        · rw [pk_un ec, pk_un ec, pk_un ec]
          exact t4 c (by omega)
    · have e' : s_can s t = false := by simpa using e
      refine ⟨(nI (t + 1), v), ?_, rfl, hf, ?_⟩
      · show M_Ranking_takeCandidates_b23 (nI t) v = _
        unfold M_Ranking_takeCandidates_b23 M_Ranking_takeCandidates_b87
        rw [hd2.1, if_neg (by rw [qi_le (by omega) (by omega)]; omega), p_cand hd2 hs ht, e', Option.bind_some, show b2i false = (0 : Int32) from rfl, if_pos rfl, show (1 : Int32) = nI 1 from rfl, qi_add]
      · show TK v s _
        rw [cnt_s0 e']
        exact ⟨t1, t2, t3, t4⟩) (fun x hx => by
    obtain ⟨x1, v⟩ := x
    obtain ⟨rfl, hf, ht⟩ := hx
    refine ⟨v, ?_, hf, ht⟩
    show M_Ranking_takeCandidates_b23 (nI (s_t s)) v = _
    unfold M_Ranking_takeCandidates_b23
    rw [(Dg_K hf hd).1, if_pos ((qi_le (by omega) (by omega)).mpr (Nat.le_refl _))])
  have f1 : FK u (gsF (gsF (gsF u 27 10 (nI (s_n s))) 27 11 (nI (z_n s))) 27 12 (nI 0)) := FK_t (FK_F (by decide)) (FK_t (FK_F (by decide)) (FK_F (by decide)))
  obtain ⟨y, e1, e2, e3⟩ := key (nI 0, gsF (gsF (gsF u 27 10 (nI (s_n s))) 27 11 (nI (z_n s))) 27 12 (nI 0)) ⟨rfl, f1, rfl, rfl, rfl, fun c hc => absurd hc (Nat.not_lt_zero _)⟩
  refine ⟨y, ?_, e2, e3⟩
  unfold M_Ranking_takeCandidates M_Board_genes
  show ((M_Board_studied (gsF u 27 10 (u.1 9 3))).bind fun q10 => (gLp M_Ranking_takeCandidates_L23 ((0 : Int32), gsF (gsF q10.2 27 11 q10.1) 27 12 (0 : Int32))).bind fun y23 => some y23) = _
  rw [hd.2.1, p_studied (Dg_K (FK_F (by decide)) hd) hs, Option.bind_some]
  show ((gLp M_Ranking_takeCandidates_L23 (nI 0, gsF (gsF (gsF u 27 10 (nI (s_n s))) 27 11 (nI (z_n s))) 27 12 (nI 0))).bind fun y23 => some y23) = _
  rw [e1]
  rfl
