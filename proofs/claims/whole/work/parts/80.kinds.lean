/-! The kinds of lines on both sides; the words behind the first. -/
def kc : List (List Int32) := [[116, 101, 114, 109], [97, 108, 105, 97, 115], [105, 115, 97], [112, 97, 114, 116], [111, 108, 100], [103, 101, 110, 101], [110, 111, 116, 101], [110, 111, 116], [115, 116, 117, 100, 121]]
def kw (i : Nat) : List Int32 := kc.getD i []
def ka (T : Nat → Int32) : List Int32 → Nat → Bool
  | [], _ => true
  | x :: xs, k => decide (T k = x) && ka T xs (k + 1)
/-- the word from c to w is the one of kind i -/
def kb (T : Nat → Int32) (c w i : Nat) : Bool := decide (w - c = (kw i).length) && ka T (kw i) c
theorem kw_len : ∀ i, i < 9 → gSlen i = nI (kw i).length ∧ gSl i = (kw i).length ∧ (kw i).length ≤ 5 := by decide +kernel
theorem kw_ch : ∀ i, i < 9 → ∀ k, k < 5 → k < (kw i).length → gSch i (nI k) = (kw i).getD k 0 := by decide +kernel
theorem p_wordIsL {U : gSt} {T : Nat → Int32} {c l i : Nat} (hT : tD U T l) (hb : U.1 2 4 = nI c) (hi : i < 9) (hcl : c + (kw i).length ≤ l) : ∀ (xs : List Int32) (k : Nat), (kw i).drop k = xs → k ≤ (kw i).length → gLp M_Text_wordIs_L15 (i, nI k, U) = some (if ka T xs (c + k) = true then .inl U else .inr U)
  | [], k, h, hk => by
    have h4 := hT.1
    obtain ⟨w1, w2, w3⟩ := kw_len i hi
    have hk2 : (kw i).length ≤ k := List.drop_eq_nil_iff.mp h
    refine gLp_done ?_
    show M_Text_wordIs_b15 i (nI k) U = _
    unfold M_Text_wordIs_b15
    rw [gc_t (decide_eq_true hi), w1, if_pos ((qi_le (by omega) (by omega)).mpr hk2)]
    rfl
  | x :: xs, k, h, hk => by
    have h4 := hT.1
    obtain ⟨w1, w2, w3⟩ := kw_len i hi
    have hk2 : k < (kw i).length := by
      by_cases c9 : k < (kw i).length
      · exact c9
      · rw [List.drop_eq_nil_iff.mpr (by omega)] at h
        cases h
    have hx : (kw i).getD k 0 = x := by
      have h5 : ((kw i).drop k)[0]? = some x := by rw [h]; rfl
      rw [List.getElem?_drop, Nat.add_zero] at h5
      rw [List.getD_eq_getElem?_getD, h5]
      rfl
    have hd : (kw i).drop (k + 1) = xs := by
      have h5 : ((kw i).drop k).drop 1 = xs := by rw [h]; rfl
      rw [List.drop_drop] at h5
      exact h5
    have hc := kw_ch i hi k (by omega) hk2
    have hs : M_Text_wordIs_L15 (i, nI k, U) = if T (c + k) = x then some (.inl (i, nI (k + 1), U)) else some (.inr (.inr U)) := by
      show M_Text_wordIs_b15 i (nI k) U = _
      unfold M_Text_wordIs_b15
      rw [gc_t (decide_eq_true hi), w1, if_neg (by rw [qi_le (by omega) (by omega)]; omega), hb, qi_add, gc_t (qi_in (n := gLen 3) (by omega) (show c + k < 40000 by omega)), gc_t (decide_eq_true hi), gc_t (qi_in (by omega) (by omega)), qi_ix (by omega), hT.2.2 (c + k) (by omega), hc, hx]
      show (if T (c + k) = x then some (Sum.inl (i, nI k + nI 1, U)) else _) = _
      rw [qi_add]
    unfold ka
    by_cases e : T (c + k) = x
    · rw [if_pos e] at hs
      rw [gLp_next hs, p_wordIsL hT hb hi hcl xs (k + 1) hd (by omega), decide_eq_true e, Bool.true_and, show c + (k + 1) = c + k + 1 by omega]
    · rw [if_neg e] at hs
      rw [gLp_done hs, decide_eq_false e, Bool.false_and]
      rfl
theorem p_wordIs {U : gSt} {T : Nat → Int32} {c w l i : Nat} (hT : tD U T l) (hb : U.1 2 4 = nI c) (hw : U.1 2 5 = nI w) (hcw : c ≤ w) (hwl : w ≤ l) (hi : i < 9) : M_Text_wordIs i U = some (b2i (kb T c w i), U) := by
  have h4 := hT.1
  obtain ⟨w1, w2, w3⟩ := kw_len i hi
  unfold M_Text_wordIs M_Text_wordLength kb
  rw [gc_t (decide_eq_true hi), hb, hw, qi_sub hcw (by omega), Option.bind_some, w1]
  show (if nI (kw i).length = nI (w - c) then _ else some ((0 : Int32), U)) = _
  by_cases e : w - c = (kw i).length
  · rw [if_pos (by rw [e]), decide_eq_true e, Bool.true_and]
    have key := p_wordIsL hT hb hi (by omega) (kw i) 0 rfl (Nat.zero_le _)
    show (gLp M_Text_wordIs_L15 (i, nI 0, U)).bind _ = _
    rw [key, Option.bind_some, Nat.add_zero]
    cases ka T (kw i) c <;> rfl
  · rw [if_neg (by rw [qi_eq (by omega) (by omega)]; omega), decide_eq_false e]
    rfl
/-- the first of d from i on that has P -/
def kf (P : Nat → Bool) : Nat → Nat → Option Nat
  | 0, _ => none
  | d + 1, i => if P i then some i else kf P d (i + 1)
theorem p_kindL {U : gSt} {T : Nat → Int32} {c w l : Nat} (hT : tD U T l) (hb : U.1 2 4 = nI c) (hw : U.1 2 5 = nI w) (hcw : c ≤ w) (hwl : w ≤ l) : ∀ (d i : Nat), i + d = 9 → gLp M_Clerk_kindOfWord_L2 (nI i, U) = some (match kf (kb T c w) d i with | none => .inl U | some j => .inr (nI j, U))
  | 0, i, h => by
    refine gLp_done ?_
    show M_Clerk_kindOfWord_b2 (nI i) U = _
    unfold M_Clerk_kindOfWord_b2
    rw [if_pos (show (9 : Int32) ≤ nI i from (qi_le (a := 9) (by omega) (by omega)).mpr (by omega))]
    rfl
  | d + 1, i, h => by
    have hs : M_Clerk_kindOfWord_L2 (nI i, U) = if kb T c w i = true then some (.inr (.inr (nI i, U))) else some (.inl (nI (i + 1), U)) := by
      show M_Clerk_kindOfWord_b2 (nI i) U = _
      unfold M_Clerk_kindOfWord_b2
      rw [if_neg (show ¬ (9 : Int32) ≤ nI i by rw [show (9 : Int32) = nI 9 from rfl, qi_le (by omega) (by omega)]; omega), gc_t (qi_in (by omega) (by omega)), qi_ix (by omega), gc_t (decide_eq_true (by omega)), p_wordIs hT hb hw hcw hwl (by omega), Option.bind_some]
      cases kb T c w i with
      | true => rfl
      | false =>
        show some (Sum.inl (nI i + nI 1, U)) = _
        rw [qi_add]
        rfl
    unfold kf
    cases e : kb T c w i with
    | true =>
      rw [e, if_pos rfl] at hs
      rw [gLp_done hs, if_pos rfl]
    | false =>
      rw [e, if_neg (by decide)] at hs
      rw [gLp_next hs, p_kindL hT hb hw hcw hwl d (i + 1) (by omega), if_neg (by decide)]
theorem kf_lt {P : Nat → Bool} : ∀ (d i j : Nat), kf P d i = some j → j < i + d
  | 0, i, j, h => by cases h
  | d + 1, i, j, h => by
    unfold kf at h
    by_cases e : P i = true
    · rw [if_pos e] at h
      cases h
      omega
    · rw [if_neg e] at h
      have := kf_lt d (i + 1) j h
      omega
theorem p_kind {U : gSt} {T : Nat → Int32} {c w l : Nat} (hT : tD U T l) (hb : U.1 2 4 = nI c) (hw : U.1 2 5 = nI w) (hcw : c ≤ w) (hwl : w ≤ l) : M_Clerk_kindOfWord U = some (kf (kb T c w) 9 0, U) := by
  have key := p_kindL hT hb hw hcw hwl 9 0 rfl
  unfold M_Clerk_kindOfWord
  show (gLp M_Clerk_kindOfWord_L2 (nI 0, U)).bind _ = _
  rw [key, Option.bind_some]
  cases e : kf (kb T c w) 9 0 with
  | none => rfl
  | some j =>
    have := kf_lt 9 0 j e
    show (gc (gIn (nI j) 9) <| some (some (gIx (nI j)), U)) = _
    rw [gc_t (qi_in (by omega) (by omega)), qi_ix (by omega)]
/-! the model's first word -/
theorem b2i_c {p : Prop} [Decidable p] {q : Bool} {u : gSt} : (if p then some (b2i q, u) else some ((0 : Int32), u)) = some (b2i (decide p && q), u) := by
  by_cases h : p
  · rw [if_pos h, decide_eq_true h, Bool.true_and]
  · rw [if_neg h, decide_eq_false h, Bool.false_and]
    rfl
theorem p_begins3 {v : gSt} {T : Nat → Int32} {l c w : Nat} {a b d : Int32} (hT : tM v T l) (hc : c ≤ w) (hw : w ≤ l) : M_Model_begins (nI c) (nI w) a b d 0 0 v = some (b2i (decide (w - c = 3) && ka T [a, b, d] c), v) := by
  have h4 := hT.1
  unfold M_Model_begins M_Model_begins_b19 M_Model_begins_b84 M_Model_begins_b103 M_Model_begins_b107 M_Model_begins_b108
  rw [if_pos (show (0 : Int32) ≤ 0 by decide), if_pos (show (0 : Int32) ≤ 0 by decide), qi_sub hc (by omega)]
  by_cases e : w - c = 3
  · rw [if_pos (by rw [e]; rfl), show (1 : Int32) = nI 1 from rfl, show (2 : Int32) = nI 2 from rfl, qi_add, qi_add, gc_t (qi_in (n := gLen 43) (by omega) (show c < 40000 by omega)), gc_t (qi_in (n := gLen 43) (by omega) (show c + 1 < 40000 by omega)), gc_t (qi_in (n := gLen 43) (by omega) (show c + 2 < 40000 by omega)), qi_ix (by omega), qi_ix (by omega), qi_ix (by omega), hT.2.2 c (by omega), hT.2.2 (c + 1) (by omega), hT.2.2 (c + 2) (by omega), if_pos (show (3 : Int32) < 4 by decide), if_pos (show (3 : Int32) < 5 by decide), decide_eq_true e, Bool.true_and]
    show (if T c = a then (if T (c + 1) = b then (if T (c + 2) = d then some (b2i true, v) else some ((0 : Int32), v)) else some ((0 : Int32), v)) else some ((0 : Int32), v)) = _
    rw [b2i_c, b2i_c, b2i_c]
    rfl
  · rw [if_neg (show ¬ nI (w - c) = 3 by rw [show (3 : Int32) = nI 3 from rfl, qi_eq (by omega) (by omega)]; exact e), decide_eq_false e]
    rfl
theorem p_begins4 {v : gSt} {T : Nat → Int32} {l c w : Nat} {a b d f : Int32} (hf : ¬ f ≤ 0) (hT : tM v T l) (hc : c ≤ w) (hw : w ≤ l) : M_Model_begins (nI c) (nI w) a b d f 0 v = some (b2i (decide (w - c = 4) && ka T [a, b, d, f] c), v) := by
  have h4 := hT.1
  unfold M_Model_begins M_Model_begins_b19 M_Model_begins_b84 M_Model_begins_b103 M_Model_begins_b107 M_Model_begins_b108
  rw [if_pos (show (0 : Int32) ≤ 0 by decide), if_neg hf, qi_sub hc (by omega)]
  by_cases e : w - c = 4
  · rw [if_pos (by rw [e]; rfl), show (1 : Int32) = nI 1 from rfl, show (2 : Int32) = nI 2 from rfl, show (3 : Int32) = nI 3 from rfl, qi_add, qi_add, qi_add, gc_t (qi_in (n := gLen 43) (by omega) (show c < 40000 by omega)), gc_t (qi_in (n := gLen 43) (by omega) (show c + 1 < 40000 by omega)), gc_t (qi_in (n := gLen 43) (by omega) (show c + 2 < 40000 by omega)), gc_t (qi_in (n := gLen 43) (by omega) (show c + 3 < 40000 by omega)), qi_ix (by omega), qi_ix (by omega), qi_ix (by omega), qi_ix (by omega), hT.2.2 c (by omega), hT.2.2 (c + 1) (by omega), hT.2.2 (c + 2) (by omega), hT.2.2 (c + 3) (by omega), if_neg (show ¬ (4 : Int32) < 4 by decide), if_pos (show (4 : Int32) < 5 by decide), decide_eq_true e, Bool.true_and]
    show (if T c = a then (if T (c + 1) = b then (if T (c + 2) = d then (if T (c + 3) = f then some (b2i true, v) else some ((0 : Int32), v)) else some ((0 : Int32), v)) else some ((0 : Int32), v)) else some ((0 : Int32), v)) = _
    rw [b2i_c, b2i_c, b2i_c, b2i_c]
    rfl
  · rw [if_neg (show ¬ nI (w - c) = 4 by rw [show (4 : Int32) = nI 4 from rfl, qi_eq (by omega) (by omega)]; exact e), decide_eq_false e]
    rfl
theorem p_begins5 {v : gSt} {T : Nat → Int32} {l c w : Nat} {a b d f g : Int32} (hg : ¬ g ≤ 0) (hT : tM v T l) (hc : c ≤ w) (hw : w ≤ l) : M_Model_begins (nI c) (nI w) a b d f g v = some (b2i (decide (w - c = 5) && ka T [a, b, d, f, g] c), v) := by
  have h4 := hT.1
  unfold M_Model_begins M_Model_begins_b19 M_Model_begins_b84 M_Model_begins_b103 M_Model_begins_b107 M_Model_begins_b108
  rw [if_neg hg, qi_sub hc (by omega)]
  by_cases e : w - c = 5
  · rw [if_pos (by rw [e]; rfl), show (1 : Int32) = nI 1 from rfl, show (2 : Int32) = nI 2 from rfl, show (3 : Int32) = nI 3 from rfl, show (4 : Int32) = nI 4 from rfl, qi_add, qi_add, qi_add, qi_add, gc_t (qi_in (n := gLen 43) (by omega) (show c < 40000 by omega)), gc_t (qi_in (n := gLen 43) (by omega) (show c + 1 < 40000 by omega)), gc_t (qi_in (n := gLen 43) (by omega) (show c + 2 < 40000 by omega)), gc_t (qi_in (n := gLen 43) (by omega) (show c + 3 < 40000 by omega)), gc_t (qi_in (n := gLen 43) (by omega) (show c + 4 < 40000 by omega)), qi_ix (by omega), qi_ix (by omega), qi_ix (by omega), qi_ix (by omega), qi_ix (by omega), hT.2.2 c (by omega), hT.2.2 (c + 1) (by omega), hT.2.2 (c + 2) (by omega), hT.2.2 (c + 3) (by omega), hT.2.2 (c + 4) (by omega), if_neg (show ¬ (5 : Int32) < nI 4 by decide), if_neg (show ¬ (5 : Int32) < 5 by decide), decide_eq_true e, Bool.true_and]
    show (if T c = a then (if T (c + 1) = b then (if T (c + 2) = d then (if T (c + 3) = f then (if T (c + 4) = g then some (b2i true, v) else some ((0 : Int32), v)) else some ((0 : Int32), v)) else some ((0 : Int32), v)) else some ((0 : Int32), v)) else some ((0 : Int32), v)) = _
    rw [b2i_c, b2i_c, b2i_c, b2i_c, b2i_c]
    rfl
  · rw [if_neg (show ¬ nI (w - c) = 5 by rw [show (5 : Int32) = nI 5 from rfl, qi_eq (by omega) (by omega)]; exact e), decide_eq_false e]
    rfl
theorem p_mlineL {T : Nat → Int32} {u : gSt} {l e : Nat} {k pl a e' x1 : Int32} (hT : tM u T l) (he : e ≤ l) : ∀ (d b : Nat), b + d = e → gLp M_Model_line_L21 (x1, nI e, ms u k pl a (nI b) e') = some (x1, ms u k pl a (nI (wd T 32 d b)) e')
  | 0, b, h => by
    have hl := hT.1
    refine gLp_done ?_
    show M_Model_line_b21 x1 (nI e) (ms u k pl a (nI b) e') = _
    unfold M_Model_line_b21
    exact if_pos (show nI e ≤ nI b from (qi_le (by omega) (by omega)).mpr (by omega))
  | d + 1, b, h => by
    have hl := hT.1
    have hs : M_Model_line_L21 (x1, nI e, ms u k pl a (nI b) e') = if T b = 32 then some (.inr (x1, ms u k pl a (nI b) e')) else some (.inl (x1, nI e, ms u k pl a (nI (b + 1)) e')) := by
      show M_Model_line_b21 x1 (nI e) (ms u k pl a (nI b) e') = _
      unfold M_Model_line_b21
      show (if nI e ≤ nI b then _ else _) = _
      rw [if_neg (show ¬ nI e ≤ nI b by rw [qi_le (by omega) (by omega)]; omega)]
      show gc (gIn (nI b) (gLen 43)) (if u.2.2.1 43 (gIx (nI b)) = 32 then _ else some (Sum.inl (x1, nI e, gsF (ms u k pl a (nI b) e') 42 23 (nI b + nI 1)))) = _
      rw [gc_t (qi_in (n := gLen 43) (by omega) (show b < 40000 by omega)), qi_ix (by omega), hT.2.2 b (by omega), qi_add, ms_w]
    unfold wd
    by_cases c : T b = 32
    · rw [if_pos c] at hs ⊢
      exact gLp_done hs
    · rw [if_neg c] at hs ⊢
      rw [gLp_next hs]
      exact p_mlineL hT he d (b + 1) (by omega)
/-- what the model does with a line of kind i -/
noncomputable def mop (i : Option Nat) (c : Int32) (S : gSt) : Option gSt :=
  match i with
  | none => (M_Model_stop 1 c S).bind fun q => some q.2
  | some 0 => M_Model_newTerm c S
  | some 1 => M_Model_alias c S
  | some 2 => M_Model_link c S
  | some 3 => M_Model_link c S
  | some 4 => (M_Model_termNext S).bind fun q175 => (M_Model_ends c (1 : Int32) q175.2).bind fun q183 => if q183.1 = (0 : Int32) then some q183.2 else (gc (gIn q175.1 (gLen 49)) <| (some (gsA q183.2 49 (gIx q175.1) (1 : Int32))).bind fun u196 => some u196)
  | some 5 => M_Model_gene c S
  | some 6 => M_Model_note c (1 : Int32) S
  | some 7 => M_Model_note c (0 : Int32) S
  | some _ => (M_Model_geneNext S).bind fun q299 => (M_Model_ends c (1 : Int32) q299.2).bind fun q307 => if q307.1 = (0 : Int32) then some q307.2 else (gc (gIn q299.1 (gLen 54)) <| if (q307.2.2.2.1 54 (gIx q299.1)) = (0 : Int32) then (gc (gIn q299.1 (gLen 54)) <| (some (gsA q307.2 54 (gIx q299.1) (1 : Int32))).bind fun u330 => (some (gsF u330 42 21 ((u330.1 42 21) + (1 : Int32)))).bind fun u338 => some u338) else some q307.2)
theorem ob {α : Type} {x : Option α} : (x.bind fun q => some q) = x := by cases x <;> rfl
theorem p_mline {T : Nat → Int32} {v : gSt} {l c e : Nat} {pl a w e' : Int32} (hT : tM v T l) (he : e ≤ l) (hc : c < e) : M_Model_line (nI c) (nI e) (ms v 0 pl a w e') = mop (kf (kb T c (wd T 32 (e - c) c)) 9 0) (nI c) (ms v 0 pl (nI c) (nI (wd T 32 (e - c) c)) (nI e)) := by
  have h4 := hT.1
  have hw := wd_ge (T := T) (c := 32) (e - c) c
  unfold M_Model_line
  rw [if_neg (by rw [qi_eq (by omega) (by omega)]; omega)]
  show (gLp M_Model_line_L21 (nI c, nI e, gsF (gsF (gsF (ms v 0 pl a w e') 42 24 (nI e)) 42 22 (nI c)) 42 23 (nI c))).bind _ = _
  rw [ms_e, ms_a, ms_w, p_mlineL hT he (e - c) c (by omega), Option.bind_some]
  generalize wd T 32 (e - c) c = z at hw ⊢
  generalize hS : ms v 0 pl (nI c) (nI z) (nI e) = S
  have hTS : tM S T l := by
    rw [← hS]
    exact hT
  have hz : S.1 42 23 = nI z := by
    rw [← hS]
    rfl
  have b0 : M_Model_begins (nI c) (nI z) 116 101 114 109 0 S = some (b2i (kb T c z 0), S) := p_begins4 (by decide) hTS hw.1 (by omega)
  have b1 : M_Model_begins (nI c) (nI z) 97 108 105 97 115 S = some (b2i (kb T c z 1), S) := p_begins5 (by decide) hTS hw.1 (by omega)
  have b2 : M_Model_begins (nI c) (nI z) 105 115 97 0 0 S = some (b2i (kb T c z 2), S) := p_begins3 hTS hw.1 (by omega)
  have b3 : M_Model_begins (nI c) (nI z) 112 97 114 116 0 S = some (b2i (kb T c z 3), S) := p_begins4 (by decide) hTS hw.1 (by omega)
  have b4 : M_Model_begins (nI c) (nI z) 111 108 100 0 0 S = some (b2i (kb T c z 4), S) := p_begins3 hTS hw.1 (by omega)
  have b5 : M_Model_begins (nI c) (nI z) 103 101 110 101 0 S = some (b2i (kb T c z 5), S) := p_begins4 (by decide) hTS hw.1 (by omega)
  have b6 : M_Model_begins (nI c) (nI z) 110 111 116 101 0 S = some (b2i (kb T c z 6), S) := p_begins4 (by decide) hTS hw.1 (by omega)
  have b7 : M_Model_begins (nI c) (nI z) 110 111 116 0 0 S = some (b2i (kb T c z 7), S) := p_begins3 hTS hw.1 (by omega)
  have b8 : M_Model_begins (nI c) (nI z) 115 116 117 100 121 S = some (b2i (kb T c z 8), S) := p_begins5 (by decide) hTS hw.1 (by omega)
  unfold M_Model_line_b149 M_Model_line_b197 M_Model_line_b341 M_Model_line_b351
  show (M_Model_begins (nI c) (S.1 42 23) 116 101 114 109 0 S).bind _ = _
  rw [hz, b0, Option.bind_some]
  unfold kf
  cases kb T c z 0 with
  | true => exact ob
  | false =>
    show (M_Model_begins (nI c) (nI z) 97 108 105 97 115 S).bind _ = _
    rw [b1, Option.bind_some, if_neg (show ¬ false = true by decide)]
    unfold kf
    cases kb T c z 1 with
    | true => exact ob
    | false =>
      show (M_Model_begins (nI c) (nI z) 105 115 97 0 0 S).bind _ = _
      rw [b2, Option.bind_some, if_neg (show ¬ false = true by decide)]
      unfold kf
      cases kb T c z 2 with
      | true => exact ob
      | false =>
        show (M_Model_begins (nI c) (nI z) 112 97 114 116 0 S).bind _ = _
        rw [b3, Option.bind_some, if_neg (show ¬ false = true by decide)]
        unfold kf
        cases kb T c z 3 with
        | true => exact ob
        | false =>
          show (M_Model_begins (nI c) (nI z) 111 108 100 0 0 S).bind _ = _
          rw [b4, Option.bind_some, if_neg (show ¬ false = true by decide)]
          unfold kf
          cases kb T c z 4 with
          | true => rfl
          | false =>
            show (M_Model_begins (nI c) (nI z) 103 101 110 101 0 S).bind _ = _
            rw [b5, Option.bind_some, if_neg (show ¬ false = true by decide)]
            unfold kf
            cases kb T c z 5 with
            | true => exact ob
            | false =>
              show (M_Model_begins (nI c) (nI z) 110 111 116 101 0 S).bind _ = _
              rw [b6, Option.bind_some, if_neg (show ¬ false = true by decide)]
              unfold kf
              cases kb T c z 6 with
              | true => exact ob
              | false =>
                show (M_Model_begins (nI c) (nI z) 110 111 116 0 0 S).bind _ = _
                rw [b7, Option.bind_some, if_neg (show ¬ false = true by decide)]
                unfold kf
                cases kb T c z 7 with
                | true => exact ob
                | false =>
                  show (M_Model_begins (nI c) (nI z) 115 116 117 100 121 S).bind _ = _
                  rw [b8, Option.bind_some, if_neg (show ¬ false = true by decide)]
                  unfold kf
                  cases kb T c z 8 with
                  | true => rfl
                  | false => rfl
