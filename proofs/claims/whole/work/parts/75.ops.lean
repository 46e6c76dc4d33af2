/-! What a line does, as one state goes over to the next; the board's side. -/
def s_add (s : GS) : GS := (s_t s + 1, s_n s, s_lk s, s_ab s, s_nt s, s_ol s, s_st s, s_l s, s_c s)
def s_gen (s : GS) : GS := (s_t s, s_n s + 1, s_lk s, s_ab s, s_nt s, s_ol s, s_st s, s_l s, s_c s)
def s_lnk (s : GS) (lo hi : Nat) : GS := (s_t s, s_n s, fun x y => s_lk s x y || (decide (x = lo) && decide (y = hi)), fun x y => s_ab s x y || ((decide (x = lo) || s_ab s x lo) && (decide (y = hi) || s_ab s hi y)), s_nt s, s_ol s, s_st s, s_l s + 1, s_c s)
def s_not (s : GS) (g t : Nat) : GS := (s_t s, s_n s, s_lk s, s_ab s, fun h y => s_nt s h y || (decide (h = g) && decide (y = t)), s_ol s, s_st s, s_l s, s_c s + 1)
def s_old (s : GS) (t : Nat) : GS := (s_t s, s_n s, s_lk s, s_ab s, s_nt s, fun y => s_ol s y || decide (y = t), s_st s, s_l s, s_c s)
def s_stu (s : GS) (g : Nat) : GS := (s_t s, s_n s, s_lk s, s_ab s, s_nt s, s_ol s, fun h => s_st s h || decide (h = g), s_l s, s_c s)
def n_push (N : NS) (z : Nat) (l : Nat → Nat) (o : Nat) : NS := (n_c N + 1, fun i => if i = n_c N then z else n_z N i, fun i => if i = n_c N then l else n_l N i, fun i => if i = n_c N then o else n_o N i)
theorem Gd_add {s : GS} (h : Gd s) (ht : s_t s < 200) : Gd (s_add s) := by
  obtain ⟨h1, h2, h3, h4, h5, h6, h7, h8, h9, h10, h11⟩ := h
  refine ⟨ht, h2, h3, fun x y e => ?_, h5, h6, fun g y e => ?_, fun y e => ?_, h9, h10, h11⟩
  · have := h4 x y e
    exact ⟨Nat.lt_succ_of_lt this.1, Nat.lt_succ_of_lt this.2⟩
  · have := h7 g y e
    exact ⟨this.1, Nat.lt_succ_of_lt this.2⟩
  · exact Nat.lt_succ_of_lt (h8 y e)
theorem Gd_gen {s : GS} (h : Gd s) (hn : s_n s < 200) : Gd (s_gen s) := by
  obtain ⟨h1, h2, h3, h4, h5, h6, h7, h8, h9, h10, h11⟩ := h
  refine ⟨h1, hn, h3, h4, h5, h6, fun g y e => ?_, h8, fun g e => ?_, h10, h11⟩
  · have := h7 g y e
    exact ⟨Nat.lt_succ_of_lt this.1, this.2⟩
  · exact Nat.lt_succ_of_lt (h9 g e)
theorem lnk_ab {s : GS} {lo hi x y : Nat} : s_ab (s_lnk s lo hi) x y = true ↔ s_ab s x y = true ∨ ((x = lo ∨ s_ab s x lo = true) ∧ (y = hi ∨ s_ab s hi y = true)) := by
  show (s_ab s x y || ((decide (x = lo) || s_ab s x lo) && (decide (y = hi) || s_ab s hi y))) = true ↔ _
  rw [Bool.or_eq_true, Bool.and_eq_true, Bool.or_eq_true, Bool.or_eq_true, decide_eq_true_eq, decide_eq_true_eq]
theorem Gd_lnk {s : GS} {lo hi : Nat} (h : Gd s) (hlo : lo < s_t s) (hhi : hi < s_t s) (hne : lo ≠ hi) (hno : s_ab s hi lo = false) (hl : s_l s < 600) : Gd (s_lnk s lo hi) := by
  obtain ⟨h1, h2, h3, h4, h5, h6, h7, h8, h9, h10, h11⟩ := h
  have no : ¬ s_ab s hi lo = true := by rw [hno]; decide
  refine ⟨h1, h2, fun x y e => ?_, fun x y e => ?_, fun x y z e1 e2 => ?_, fun x => ?_, h7, h8, h9, hl, h11⟩
  · have e' : (s_lk s x y || (decide (x = lo) && decide (y = hi))) = true := e
    rw [Bool.or_eq_true, Bool.and_eq_true, decide_eq_true_eq, decide_eq_true_eq] at e'
    rw [lnk_ab]
    rcases e' with e' | ⟨e1, e2⟩
    · exact Or.inl (h3 x y e')
    · exact Or.inr ⟨Or.inl e1, Or.inl e2⟩
  · rw [lnk_ab] at e
    show x < s_t s ∧ y < s_t s
    rcases e with e | ⟨e1, e2⟩
    · exact h4 x y e
    · refine ⟨?_, ?_⟩
      · rcases e1 with e1 | e1
        · omega
        · exact (h4 x lo e1).1
      · rcases e2 with e2 | e2
        · omega
        · exact (h4 hi y e2).2
  · rw [lnk_ab] at e1 e2 ⊢
    rcases e1 with e1 | ⟨a1, a2⟩
    · rcases e2 with e2 | ⟨b1, b2⟩
      · exact Or.inl (h5 x y z e1 e2)
      · refine Or.inr ⟨?_, b2⟩
        rcases b1 with b1 | b1
        · subst b1
          exact Or.inr e1
        · exact Or.inr (h5 x y lo e1 b1)
    · rcases e2 with e2 | ⟨b1, b2⟩
      · refine Or.inr ⟨a1, ?_⟩
        rcases a2 with a2 | a2
        · subst a2
          exact Or.inr e2
        · exact Or.inr (h5 hi y z a2 e2)
      · exact Or.inr ⟨a1, b2⟩
  · cases hx : s_ab (s_lnk s lo hi) x x with
    | false => rfl
    | true =>
      exfalso
      rw [lnk_ab] at hx
      rcases hx with e | ⟨a1, a2⟩
      · rw [h6 x] at e
        cases e
      · rcases a1 with a1 | a1
        · rcases a2 with a2 | a2
          · omega
          · subst a1
            exact no a2
        · rcases a2 with a2 | a2
          · subst a2
            exact no a1
          · exact no (h5 hi x lo a2 a1)
theorem Gd_not {s : GS} {g t : Nat} (h : Gd s) (hg : g < s_n s) (ht : t < s_t s) (hl : s_c s < 2000) : Gd (s_not s g t) := by
  obtain ⟨h1, h2, h3, h4, h5, h6, h7, h8, h9, h10, h11⟩ := h
  refine ⟨h1, h2, h3, h4, h5, h6, fun x y e => ?_, h8, h9, h10, hl⟩
  have e' : (s_nt s x y || (decide (x = g) && decide (y = t))) = true := e
  rw [Bool.or_eq_true, Bool.and_eq_true, decide_eq_true_eq, decide_eq_true_eq] at e'
  show x < s_n s ∧ y < s_t s
  rcases e' with e' | ⟨e1, e2⟩
  · exact h7 x y e'
  · omega
theorem Gd_old {s : GS} {t : Nat} (h : Gd s) (ht : t < s_t s) : Gd (s_old s t) := by
  obtain ⟨h1, h2, h3, h4, h5, h6, h7, h8, h9, h10, h11⟩ := h
  refine ⟨h1, h2, h3, h4, h5, h6, h7, fun y e => ?_, h9, h10, h11⟩
  have e' : (s_ol s y || decide (y = t)) = true := e
  rw [Bool.or_eq_true, decide_eq_true_eq] at e'
  show y < s_t s
  rcases e' with e' | e'
  · exact h8 y e'
  · omega
theorem Gd_stu {s : GS} {g : Nat} (h : Gd s) (hg : g < s_n s) : Gd (s_stu s g) := by
  obtain ⟨h1, h2, h3, h4, h5, h6, h7, h8, h9, h10, h11⟩ := h
  refine ⟨h1, h2, h3, h4, h5, h6, h7, h8, fun y e => ?_, h10, h11⟩
  have e' : (s_st s y || decide (y = g)) = true := e
  rw [Bool.or_eq_true, decide_eq_true_eq] at e'
  show y < s_n s
  rcases e' with e' | e'
  · exact h9 y e'
  · omega
theorem Gn_push {N : NS} {t z o t' : Nat} {l : Nat → Nat} (h : Gn N t) (hz : 1 ≤ z) (hz2 : z ≤ 12) (hl : ∀ k, k < z → 1 ≤ l k ∧ l k < 128) (ho : o < t') (ht : t ≤ t') (hs : ∀ y, y < t' → y < t ∨ y = o) : Gn (n_push N z l o) t' := by
  obtain ⟨h1, h2⟩ := h
  refine ⟨fun i hi => ?_, fun y hy => ?_⟩
  · have hi' : i < n_c N + 1 := hi
    show 1 ≤ (if i = n_c N then z else n_z N i) ∧ (if i = n_c N then z else n_z N i) ≤ 12 ∧ (if i = n_c N then o else n_o N i) < t' ∧ ∀ k, k < (if i = n_c N then z else n_z N i) → 1 ≤ (if i = n_c N then l else n_l N i) k ∧ (if i = n_c N then l else n_l N i) k < 128
    by_cases e : i = n_c N
    · simp only [if_pos e]
      exact ⟨hz, hz2, ho, hl⟩
    · simp only [if_neg e]
      obtain ⟨a1, a2, a3, a4⟩ := h1 i (by omega)
      exact ⟨a1, a2, by omega, a4⟩
  · show ∃ i, i < n_c N + 1 ∧ (if i = n_c N then o else n_o N i) = y
    rcases hs y hy with h9 | h9
    · obtain ⟨i, a1, a2⟩ := h2 y h9
      exact ⟨i, by omega, by rw [if_neg (by omega)]; exact a2⟩
    · exact ⟨n_c N, by omega, by rw [if_pos rfl]; exact h9.symm⟩
theorem av_iff {s : GS} {g y : Nat} : s_av s g y = true ↔ s_nt s g y = true ∨ ∃ x, x < s_t s ∧ s_nt s g x = true ∧ s_ab s x y = true := by
  unfold s_av
  rw [Bool.or_eq_true, anyR_iff]
  constructor
  · rintro (h | ⟨x, -, h1, h2⟩)
    · exact Or.inl h
    · rw [Bool.and_eq_true] at h2
      exact Or.inr ⟨x, by omega, h2.1, h2.2⟩
  · rintro (h | ⟨x, h1, h2, h3⟩)
    · exact Or.inl h
    · exact Or.inr ⟨x, Nat.zero_le _, by omega, by rw [h2, h3]; rfl⟩
theorem av_add {s : GS} (hs : Gd s) {g y : Nat} : s_av (s_add s) g y = s_av s g y := by
  rw [Bool.eq_iff_iff, av_iff, av_iff]
  constructor
  · rintro (h | ⟨x, h1, h2, h3⟩)
    · exact Or.inl h
    · exact Or.inr ⟨x, (hs.2.2.2.2.2.2.1 g x h2).2, h2, h3⟩
  · rintro (h | ⟨x, h1, h2, h3⟩)
    · exact Or.inl h
    · exact Or.inr ⟨x, Nat.lt_succ_of_lt h1, h2, h3⟩
theorem av_lnk {s : GS} (hs : Gd s) {lo hi g y : Nat} : s_av (s_lnk s lo hi) g y = (s_av s g y || ((decide (y = hi) || s_ab s hi y) && s_av s g lo)) := by
  rw [Bool.eq_iff_iff, Bool.or_eq_true, Bool.and_eq_true, Bool.or_eq_true, decide_eq_true_eq, av_iff, av_iff, av_iff]
  constructor
  · rintro (h | ⟨x, h1, h2, h3⟩)
    · exact Or.inl (Or.inl h)
    · rw [lnk_ab] at h3
      have h2' : s_nt s g x = true := h2
      rcases h3 with h3 | ⟨a1, a2⟩
      · exact Or.inl (Or.inr ⟨x, h1, h2, h3⟩)
      · refine Or.inr ⟨a2, ?_⟩
        rcases a1 with a1 | a1
        · subst a1
          exact Or.inl h2
        · exact Or.inr ⟨x, h1, h2, a1⟩
  · rintro ((h | ⟨x, h1, h2, h3⟩) | ⟨a2, (h | ⟨x, h1, h2, h3⟩)⟩)
    · exact Or.inl h
    · exact Or.inr ⟨x, h1, h2, lnk_ab.mpr (Or.inl h3)⟩
    · exact Or.inr ⟨lo, (hs.2.2.2.2.2.2.1 g lo h).2, h, lnk_ab.mpr (Or.inr ⟨Or.inl rfl, a2⟩)⟩
    · exact Or.inr ⟨x, h1, h2, lnk_ab.mpr (Or.inr ⟨Or.inr h3, a2⟩)⟩
theorem not_nt {s : GS} {g t h y : Nat} : s_nt (s_not s g t) h y = true ↔ s_nt s h y = true ∨ (h = g ∧ y = t) := by
  show (s_nt s h y || (decide (h = g) && decide (y = t))) = true ↔ _
  rw [Bool.or_eq_true, Bool.and_eq_true, decide_eq_true_eq, decide_eq_true_eq]
theorem av_not {s : GS} {g t h y : Nat} (ht : t < s_t s) : s_av (s_not s g t) h y = (s_av s h y || (decide (h = g) && (decide (y = t) || s_ab s t y))) := by
  rw [Bool.eq_iff_iff, Bool.or_eq_true, Bool.and_eq_true, Bool.or_eq_true, decide_eq_true_eq, decide_eq_true_eq, av_iff, av_iff]
  constructor
  · rintro (h9 | ⟨x, h1, h2, h3⟩)
    · rw [not_nt] at h9
      rcases h9 with h9 | ⟨a1, a2⟩
      · exact Or.inl (Or.inl h9)
      · exact Or.inr ⟨a1, Or.inl a2⟩
    · rw [not_nt] at h2
      rcases h2 with h2 | ⟨a1, a2⟩
      · exact Or.inl (Or.inr ⟨x, h1, h2, h3⟩)
      · subst a2
        exact Or.inr ⟨a1, Or.inr h3⟩
  · rintro ((h9 | ⟨x, h1, h2, h3⟩) | ⟨a1, (a2 | a2)⟩)
    · exact Or.inl (not_nt.mpr (Or.inl h9))
    · exact Or.inr ⟨x, h1, not_nt.mpr (Or.inl h2), h3⟩
    · exact Or.inl (not_nt.mpr (Or.inr ⟨a1, a2⟩))
    · exact Or.inr ⟨t, ht, not_nt.mpr (Or.inr ⟨a1, rfl⟩), a2⟩
/-- same or above, asked of a grid as it stands -/
theorem p_soa {u : gSt} {a b : Nat} (ha : a < 200) (hb : b < 200) : M_Board_isSameOrAbove (nI a) (nI b) u = some (b2i (decide (a = b) || gb u 16 b a), u) := by
  unfold M_Board_isSameOrAbove M_Board_isSameOrAbove_b17 M_Board_isSameOrAbove_b22
  by_cases e : a = b
  · rw [if_pos (by rw [e]), decide_eq_true e, Bool.true_or]
    rfl
  · rw [if_neg (by rw [qi_eq (by omega) (by omega)]; exact e), decide_eq_false e, Bool.false_or, p_has (a := 15) (r := 16) rfl rfl rfl (by omega) (by omega) (show 4 * b + a / 64 < 800 by omega), Option.bind_some]
    cases gb u 16 b a <;> rfl
/-- grids alone have changed -/
def FG (u v : gSt) : Prop := (∀ a j, a ≠ 4 → v.1 a j = u.1 a j) ∧ v.2.1 = u.2.1 ∧ v.2.2.1 = u.2.2.1 ∧ ∀ a, (a < 14 ∨ 27 ≤ a) → v.2.2.2 a = u.2.2.2 a
theorem FG_n {u v : gSt} {a r0 r1 r2 : Nat} {N : NS} (h : FG u v) (h1 : Dn u a r0 r1 r2 N) (ha : a ≠ 4) (hr0 : r0 < 14) (hr1 : r1 < 14) : Dn v a r0 r1 r2 N := by
  obtain ⟨g1, g2, g3, g4⟩ := h
  unfold Dn
  rw [g1 a 3 ha, g3, g4 r0 (Or.inl hr0), g4 r1 (Or.inl hr1)]
  exact h1
theorem p_put0 {a r i : Nat} {u : gSt} (h1 : gK a = 5) (h2 : gFR a 0 = some r) (h3 : gK r = 24) (hl : gLen r = 4) (hi : i < 256) : ∃ F, M_Grid_put a (0 : Int32) (nI i) u = some (gsQ u r F) ∧ ∀ y, y < 256 → gb (gsQ u r F) r 0 y = (gb u r 0 y || decide (y = i)) := by
  obtain ⟨F, e, g⟩ := p_put (a := a) (r := r) (row := 0) (i := i) (u := u) h1 h2 h3 (by decide) hi (by omega)
  refine ⟨F, e, fun y hy => ?_⟩
  rw [g 0 y hy, decide_eq_true rfl, Bool.true_and]
theorem FG_Q {u : gSt} {r : Nat} {F : Nat → Int64} (h : 14 ≤ r) (h2 : r < 27) : FG u (gsQ u r F) := ⟨fun _ _ _ => rfl, rfl, rfl, fun a ha => gsQ_b (by omega)⟩
theorem FG_t {u v w : gSt} (h : FG u v) (k : FG v w) : FG u w := by
  obtain ⟨h1, h2, h3, h4⟩ := h
  obtain ⟨k1, k2, k3, k4⟩ := k
  exact ⟨fun a j ha => by rw [k1 a j ha, h1 a j ha], by rw [k2, h2], by rw [k3, h3], fun a ha => by rw [k4 a ha, h4 a ha]⟩
theorem o_old {u : gSt} {s : GS} {t : Nat} (hd : Dg u s) (ht : t < 200) : ∃ v, M_Grid_put 21 (0 : Int32) (nI t) u = some v ∧ FG u v ∧ Dg v (s_old s t) := by
  obtain ⟨F, e, g⟩ := p_put0 (a := 21) (r := 22) (i := t) (u := u) rfl rfl rfl rfl (by omega)
  refine ⟨_, e, FG_Q (by decide) (by decide), ?_⟩
  obtain ⟨d1, d2, d3, d4, d5, d6, d7, d8, d9, d10⟩ := hd
  refine ⟨d1, d2, d3, d4, fun x y hx hy => ?_, fun x y hx hy => ?_, fun x y hx hy => ?_, fun x y hx hy => ?_, fun y hy => ?_, fun y hy => ?_⟩
  · rw [gb_b (by decide)]; exact d5 x y hx hy
  · rw [gb_b (by decide)]; exact d6 x y hx hy
  · rw [gb_b (by decide)]; exact d7 x y hx hy
  · rw [gb_b (by decide)]; exact d8 x y hx hy
  · rw [g y hy, d9 y hy]; rfl
  · rw [gb_b (by decide)]; exact d10 y hy
theorem o_stu {u : gSt} {s : GS} {t : Nat} (hd : Dg u s) (ht : t < 200) : ∃ v, M_Grid_put 23 (0 : Int32) (nI t) u = some v ∧ FG u v ∧ Dg v (s_stu s t) := by
  obtain ⟨F, e, g⟩ := p_put0 (a := 23) (r := 24) (i := t) (u := u) rfl rfl rfl rfl (by omega)
  refine ⟨_, e, FG_Q (by decide) (by decide), ?_⟩
  obtain ⟨d1, d2, d3, d4, d5, d6, d7, d8, d9, d10⟩ := hd
  refine ⟨d1, d2, d3, d4, fun x y hx hy => ?_, fun x y hx hy => ?_, fun x y hx hy => ?_, fun x y hx hy => ?_, fun y hy => ?_, fun y hy => ?_⟩
  · rw [gb_b (by decide)]; exact d5 x y hx hy
  · rw [gb_b (by decide)]; exact d6 x y hx hy
  · rw [gb_b (by decide)]; exact d7 x y hx hy
  · rw [gb_b (by decide)]; exact d8 x y hx hy
  · rw [gb_b (by decide)]; exact d9 y hy
  · rw [g y hy, d10 y hy]; rfl
