/-! The words behind the first, on both sides. -/
noncomputable def nx {α : Type} (S : gSt) (K0 K1 : gSt → Option α) : Option α := (M_Model_next S).bind fun q1 => if q1.1 = (0 : Int32) then K0 q1.2 else (M_Model_isName q1.2).bind fun q8 => if q8.1 = (0 : Int32) then K0 q8.2 else K1 q8.2
/-- what readWord does with a word that is there -/
noncomputable def rt (x : Int32) (S : gSt) : Option (Int32 × gSt) := (M_Text_wordLength S).bind fun q14 => if q14.1 = (0 : Int32) then (M_Clerk_readWord_b20 q14.2) else ((M_Text_wordIsName q14.2).bind fun q26 => if q26.1 = (0 : Int32) then (some ((2 : Int32), q26.2)) else ((M_Text_wordHalf (0 : Int32) q26.2).bind fun q39 => (M_Text_wordHalf (6 : Int32) q39.2).bind fun q49 => if x = (2 : Int32) then (M_Clerk_readWord_b65 x q39.1 q49.1 q49.2) else (if x = (6 : Int32) then (M_Clerk_readWord_b65 x q39.1 q49.1 q49.2) else (M_Clerk_readWord_b70 x q39.1 q49.1 (0 : Int32) q49.2))))
theorem rt_a {x : Int32} {S : gSt} {l b w : Nat} {T : Nat → Int32} (hTS : tD S T l) (hb : S.1 2 4 = nI b) (hw5 : S.1 2 5 = nI w) (h1 : b ≤ w) (h2 : w ≤ l) (h3 : nI (w - b) = 0 ↔ w = b) (hlen : M_Text_wordLength S = some (nI (w - b), S)) : rt x S = if w = b then some (1, S) else if nm T b w = true then M_Clerk_readWord_b94 x (lN (pv (dg T b w 0) 6)) (lN (pv (dg T b w 6) 6)) (if x = 2 then 9 else if x = 6 then 9 else 5) S else some (2, S) := by
  unfold rt
  rw [hlen, Option.bind_some]
  by_cases c1 : w = b
  · rw [if_pos (h3.mpr c1), if_pos c1]
    rfl
  · rw [if_neg (fun h => c1 (h3.mp h)), if_neg c1, p_isName hTS hb hw5 h2 (by omega), Option.bind_some]
    cases hn : nm T b w with
    | false =>
      rw [if_pos (show b2i false = 0 from rfl), if_neg (by decide)]
    | true =>
      have ha : al T (w - b) b = true := by
        unfold nm at hn
        rw [Bool.and_eq_true] at hn
        exact hn.2
      have e1 := p_half (first := 0) hTS hb hw5 h2 (by omega) ha (by decide)
      have e2 := p_half (first := 6) hTS hb hw5 h2 (by omega) ha (by decide)
      generalize lN (pv (dg T b w 0) 6) = y1 at e1 ⊢
      generalize lN (pv (dg T b w 6) 6) = y2 at e2 ⊢
      have e1' : M_Text_wordHalf (0 : Int32) S = some (y1, S) := e1
      have e2' : M_Text_wordHalf (6 : Int32) S = some (y2, S) := e2
      unfold M_Clerk_readWord_b65 M_Clerk_readWord_b70
      rw [if_neg (show ¬ b2i true = 0 by decide), if_pos rfl, e1', Option.bind_some, e2', Option.bind_some]
      by_cases x2 : x = 2
      · rw [if_pos x2, if_pos x2, if_neg (show ¬ (1 : Int32) = 0 by decide)]
      · rw [if_neg x2, if_neg x2]
        by_cases x6 : x = 6
        · rw [if_pos x6, if_pos x6, if_neg (show ¬ (1 : Int32) = 0 by decide)]
        · rw [if_neg x6, if_neg x6, if_pos rfl]
theorem n0_iff {b w : Nat} (h1 : b ≤ w) (h2 : w ≤ 40000) : nI (w - b) = 0 ↔ w = b := by
  rw [show (0 : Int32) = nI 0 from rfl, qi_eq (by omega) (by omega)]
  omega
theorem rd_D {T : Nat → Int32} {u : gSt} {l e cp : Nat} {x : Int32} {F B : Int64} {p q f y : Int32} (hT : tD u T l) (he : e ≤ l) (hc : cp < e) : M_Clerk_readWord x (ds u F B p q f (nI e) y (nI cp)) = if wd T 32 (e - (cp + 1)) (cp + 1) = cp + 1 then some (1, ds u F B p q f (nI e) (nI (cp + 1)) (nI (wd T 32 (e - (cp + 1)) (cp + 1)))) else if nm T (cp + 1) (wd T 32 (e - (cp + 1)) (cp + 1)) = true then M_Clerk_readWord_b94 x (lN (pv (dg T (cp + 1) (wd T 32 (e - (cp + 1)) (cp + 1)) 0) 6)) (lN (pv (dg T (cp + 1) (wd T 32 (e - (cp + 1)) (cp + 1)) 6) 6)) (if x = 2 then 9 else if x = 6 then 9 else 5) (ds u F B p q f (nI e) (nI (cp + 1)) (nI (wd T 32 (e - (cp + 1)) (cp + 1)))) else some (2, ds u F B p q f (nI e) (nI (cp + 1)) (nI (wd T 32 (e - (cp + 1)) (cp + 1)))) := by
  have h4 := hT.1
  have hw := wd_ge (T := T) (c := 32) (e - (cp + 1)) (cp + 1)
  have ho := p_openWord (F := F) (B := B) (p := p) (q := q) (f := f) (x := y) hT he hc
  generalize wd T 32 (e - (cp + 1)) (cp + 1) = w at hw ho ⊢
  have hTS : tD (ds u F B p q f (nI e) (nI (cp + 1)) (nI w)) T l := hT
  have hl : M_Text_wordLength (ds u F B p q f (nI e) (nI (cp + 1)) (nI w)) = some (nI (w - (cp + 1)), ds u F B p q f (nI e) (nI (cp + 1)) (nI w)) := by
    rw [← pk_sub hw.1]
    rfl
  have hr := rt_a (x := x) (b := cp + 1) (w := w) hTS rfl rfl hw.1 (by omega) (n0_iff hw.1 (by omega)) hl
  rw [← hr]
  unfold M_Clerk_readWord
  rw [ho, Option.bind_some, if_neg (show ¬ (1 : Int32) = 0 by decide)]
  rfl
theorem rd_D0 {T : Nat → Int32} {u : gSt} {l e : Nat} {x : Int32} {F B : Int64} {p q f y : Int32} (hT : tD u T l) (he : e ≤ l) : M_Clerk_readWord x (ds u F B p q f (nI e) y (nI e)) = some (1, ds u F B p q f (nI e) (nI e) (nI e)) := by
  have h4 := hT.1
  unfold M_Clerk_readWord M_Clerk_readWord_b20
  rw [p_openWord0 hT he (Nat.le_refl _) (by omega), Option.bind_some]
  rfl
/-- a word more, read on both sides -/
theorem rd {T : Nat → Int32} {u v : gSt} {l e cp : Nat} (hT : tD u T l) (hM : tM v T l) (he : e ≤ l) (hc : cp ≤ e) : ∃ f b w, f ≤ 2 ∧ b ≤ e ∧ w ≤ e ∧ (f = 0 → b < w ∧ nm T b w = true) ∧ (∀ (x : Int32) (F B : Int64) (p q fr y : Int32), (f ≠ 0 → M_Clerk_readWord x (ds u F B p q fr (nI e) y (nI cp)) = some (nI f, ds u F B p q fr (nI e) (nI b) (nI w))) ∧ (f = 0 → M_Clerk_readWord x (ds u F B p q fr (nI e) y (nI cp)) = M_Clerk_readWord_b94 x (lN (pv (dg T b w 0) 6)) (lN (pv (dg T b w 6) 6)) (if x = 2 then 9 else if x = 6 then 9 else 5) (ds u F B p q fr (nI e) (nI b) (nI w)))) ∧ ∀ (α : Type) (K0 K1 : gSt → Option α) (pl a : Int32), ∃ a', nx (ms v 0 pl a (nI cp) (nI e)) K0 K1 = if f = 0 then K1 (ms v 0 pl (nI b) (nI w) (nI e)) else K0 (ms v (nI f) (nI b) a' (nI w) (nI e)) := by
  have h4 := hT.1
  by_cases c0 : cp = e
  · subst c0
    refine ⟨1, cp, cp, by decide, Nat.le_refl _, Nat.le_refl _, fun h => (by cases h), fun x F B p q fr y => ⟨fun _ => rd_D0 hT he, fun h => (by cases h)⟩, fun α K0 K1 pl a => ⟨a, ?_⟩⟩
    unfold nx
    rw [p_next0, Option.bind_some]
    rfl
  · have hc' : cp < e := by omega
    have hw := wd_ge (T := T) (c := 32) (e - (cp + 1)) (cp + 1)
    have hD := fun (x : Int32) (F B : Int64) (p q fr y : Int32) => rd_D (x := x) (F := F) (B := B) (p := p) (q := q) (f := fr) (y := y) hT he hc'
    have hN := fun (pl a : Int32) => p_next (pl := pl) (a := a) hM he hc'
    generalize wd T 32 (e - (cp + 1)) (cp + 1) = w at hw hD hN
    by_cases c1 : w = cp + 1
    · refine ⟨1, cp + 1, w, by decide, by omega, by omega, fun h => (by cases h), fun x F B p q fr y => ⟨fun _ => ?_, fun h => (by cases h)⟩, fun α K0 K1 pl a => ⟨nI (cp + 1), ?_⟩⟩
      · rw [hD, if_pos c1]
        rfl
      · unfold nx
        rw [hN, if_neg (by omega), Option.bind_some]
        rfl
    · have hI := fun (pl : Int32) => p_misName (b := cp + 1) (w := w) (pl := pl) (e := nI e) hM (by omega) (by omega)
      cases hn : nm T (cp + 1) w with
      | true =>
        refine ⟨0, cp + 1, w, by decide, by omega, by omega, fun _ => ⟨by omega, hn⟩, fun x F B p q fr y => ⟨fun h => absurd rfl h, fun _ => ?_⟩, fun α K0 K1 pl a => ⟨0, ?_⟩⟩
        · rw [hD, if_neg c1, if_pos hn]
        · unfold nx
          rw [hN, if_pos (by omega), Option.bind_some]
          show ((M_Model_isName (ms v 0 pl (nI (cp + 1)) (nI w) (nI e))).bind _) = _
          rw [hI, if_pos hn, Option.bind_some]
          rfl
      | false =>
        refine ⟨2, cp + 1, w, by decide, by omega, by omega, fun h => (by cases h), fun x F B p q fr y => ⟨fun _ => ?_, fun h => (by cases h)⟩, fun α K0 K1 pl a => ⟨nI (cp + 1), ?_⟩⟩
        · rw [hD, if_neg c1, if_neg (by rw [hn]; decide)]
          rfl
        · unfold nx
          rw [hN, if_pos (by omega), Option.bind_some]
          show ((M_Model_isName (ms v 0 pl (nI (cp + 1)) (nI w) (nI e))).bind _) = _
          rw [hI, if_neg (by rw [hn]; decide), Option.bind_some]
          rfl
/-! what a known or new name leads to -/
theorem fo_m1 {N : NS} {T : Nat → Int32} {b w t : Nat} {r : Int32} (hN : Gn N t) (ht : t ≤ 200) (hF : Fo N T b w r) : r = -1 ∨ ∃ y, y < t ∧ r = nI y ∧ ¬ nI y = -1 := by
  rcases hF with ⟨h, -⟩ | ⟨i, hi, -, -, h⟩
  · exact Or.inl h
  · have ho := (hN.1 i hi).2.2.1
    refine Or.inr ⟨n_o N i, ho, h, fun e9 => ?_⟩
    have := congrArg Int32.toInt e9
    rw [nI_toInt (by omega), show (-1 : Int32).toInt = -1 from rfl] at this
    omega
theorem own5 {u : gSt} {s : GS} {T G : NS} {Tx : Nat → Int32} {b w : Nat} {r : Int32} (hd : DA u s T G) (hg : GA s T G) (hn : nm Tx b w = true) (hbw : b < w) (hF : Fo T Tx b w r) : M_NameList_ownerOf 5 (lN (pv (dg Tx b w 0) 6)) (lN (pv (dg Tx b w 6) 6)) u = some (r, u) := by
  have hc := hg.2.2.2.1
  exact p_ownerOf (a := 5) (r0 := 6) (r1 := 7) (r2 := 8) rfl rfl rfl rfl rfl rfl rfl hg.2.1 hd.2.1 hc hc hc hc hn hbw hF
theorem own9 {u : gSt} {s : GS} {T G : NS} {Tx : Nat → Int32} {b w : Nat} {r : Int32} (hd : DA u s T G) (hg : GA s T G) (hn : nm Tx b w = true) (hbw : b < w) (hF : Fo G Tx b w r) : M_NameList_ownerOf 9 (lN (pv (dg Tx b w 0) 6)) (lN (pv (dg Tx b w 6) 6)) u = some (r, u) := by
  have hc := hg.2.2.2.2.1
  have hn2 := hg.1.2.1
  exact p_ownerOf (a := 9) (r0 := 10) (r1 := 11) (r2 := 12) rfl rfl rfl rfl rfl rfl rfl hg.2.2.1 hd.2.2 (by omega) (show n_c G ≤ 200 by omega) (show n_c G ≤ 200 by omega) (show n_c G ≤ 200 by omega) hn hbw hF
theorem w_new {u : gSt} {a : Nat} {x : Int32} {y1 y3 F B : Int64} {p q f e b w r : Int32} (ha : gK a = 4) (hx : x = 1 ∨ x = 2) (h : M_NameList_ownerOf a y1 y3 (ds u F B p q f e b w) = some (r, ds u F B p q f e b w)) : M_Clerk_readWord_b94 x y1 y3 a (ds u F B p q f e b w) = some (if r = -1 then 0 else 4, ds u y1 y3 p q f e b w) := by
  have g1 : (gK a == 4) = true := by rw [ha]; rfl
  have k : M_Clerk_readWord_b112 y1 y3 r (ds u F B p q f e b w) = some (if r = -1 then 0 else 4, ds u y1 y3 p q f e b w) := by
    unfold M_Clerk_readWord_b112 M_Clerk_readWord_b134
    rw [Option.bind_some, Option.bind_some, ds_F, ds_B]
    by_cases c : r = -1
    · rw [if_pos c, if_pos c]
    · rw [if_neg c, if_neg c]
  unfold M_Clerk_readWord_b94
  rw [gc_t g1, h, Option.bind_some]
  rcases hx with hx | hx
  · rw [if_pos hx]
    exact k
  · rw [if_neg (by rw [hx]; decide), if_pos hx]
    exact k
theorem w_known {u : gSt} {a : Nat} {x : Int32} {y1 y3 F B : Int64} {p q f e b w r : Int32} (ha : gK a = 4) (hx : ¬ x = 1) (hx2 : ¬ x = 2) (h : M_NameList_ownerOf a y1 y3 (ds u F B p q f e b w) = some (r, ds u F B p q f e b w)) : M_Clerk_readWord_b94 x y1 y3 a (ds u F B p q f e b w) = if r = -1 then some (3, ds u F B q r f e b w) else M_Clerk_faultOfKnown x (ds u F B q r f e b w) := by
  have g1 : (gK a == 4) = true := by rw [ha]; rfl
  unfold M_Clerk_readWord_b94 M_Clerk_readWord_b164
  rw [gc_t g1, h, Option.bind_some, if_neg hx, if_neg hx2]
  show (if r = -1 then some ((3 : Int32), gsF (gsF (ds u F B p q f e b w) 1 6 q) 1 7 r) else (M_Clerk_faultOfKnown x (gsF (gsF (ds u F B p q f e b w) 1 6 q) 1 7 r)).bind fun q161 => some (q161.1, q161.2)) = _
  rw [ds_p, ds_q]
  by_cases c : r = -1
  · rw [if_pos c, if_pos c]
  · rw [if_neg c, if_neg c]
    cases M_Clerk_faultOfKnown x (ds u F B q r f e b w) <;> rfl
theorem k_36 {x : Int32} {U : gSt} (hx : x = 3 ∨ x = 6) : M_Clerk_faultOfKnown x U = some (0, U) := by
  unfold M_Clerk_faultOfKnown M_Clerk_faultOfKnown_b39 M_Clerk_faultOfKnown_b54 M_Clerk_faultOfKnown_b78 M_Clerk_faultOfKnown_b79
  rcases hx with rfl | rfl <;> rfl
theorem k_old {u : gSt} {s : GS} {F B : Int64} {p f e b w : Int32} {y : Nat} (hd : Dg u s) (hy : y < 256) : M_Clerk_faultOfKnown_b54 1 (ds u F B p (nI y) f e b w) = some (if s_ol s y = true then 6 else 0, ds u F B p (nI y) f e b w) := by
  unfold M_Clerk_faultOfKnown_b54 M_Clerk_faultOfKnown_b78 M_Clerk_faultOfKnown_b79
  have hd' : Dg (ds u F B p (nI y) f e b w) s := hd
  rw [if_neg (by decide)]
  show (M_Board_isOld (nI y) (ds u F B p (nI y) f e b w)).bind _ = _
  rw [p_isOld hd' hy]
  cases s_ol s y <;> rfl
theorem k_4 {u : gSt} {s : GS} {F B : Int64} {p f e b w : Int32} {y : Nat} (hd : Dg u s) (hy : y < 256) : M_Clerk_faultOfKnown 4 (ds u F B p (nI y) f e b w) = some (if s_ol s y = true then 6 else 0, ds u F B p (nI y) f e b w) := by
  unfold M_Clerk_faultOfKnown M_Clerk_faultOfKnown_b39 M_Clerk_faultOfKnown_b49
  rw [if_neg (by decide), if_pos rfl]
  exact k_old hd hy
theorem k_5 {u : gSt} {s : GS} {F B : Int64} {f e b w : Int32} {x y : Nat} (hd : Dg u s) (hs : Gd s) (hx : x < s_t s) (hy : y < s_t s) : M_Clerk_faultOfKnown 5 (ds u F B (nI x) (nI y) f e b w) = some (if (decide (x = y) || s_ab s y x) = true then 5 else if s_ol s y = true then 6 else 0, ds u F B (nI x) (nI y) f e b w) := by
  have ht := hs.1
  have hd' : Dg (ds u F B (nI x) (nI y) f e b w) s := hd
  have h1 : M_Board_hasTerm (nI x) (ds u F B (nI x) (nI y) f e b w) = some (1, ds u F B (nI x) (nI y) f e b w) := by
    unfold M_Board_hasTerm M_Board_hasTerm_b17
    rw [if_neg (by rw [show (0 : Int32) = nI 0 from rfl, qi_lt (by omega) (by omega)]; omega), hd'.1, if_neg (by rw [qi_le (by omega) (by omega)]; omega)]
    rfl
  have h2 := p_soa (u := ds u F B (nI x) (nI y) f e b w) (a := x) (b := y) (by omega) (by omega)
  rw [hd'.2.2.2.2.2.1 y x (by omega) (by omega)] at h2
  unfold M_Clerk_faultOfKnown M_Clerk_faultOfKnown_b39 M_Clerk_faultOfKnown_b49
  rw [if_pos rfl]
  show ((M_Board_hasTerm (nI x) (ds u F B (nI x) (nI y) f e b w)).bind _) = _
  rw [h1, Option.bind_some, if_neg (show ¬ (1 : Int32) = 0 by decide)]
  show ((M_Board_isSameOrAbove (nI x) (nI y) (ds u F B (nI x) (nI y) f e b w)).bind _) = _
  rw [h2, Option.bind_some]
  cases (decide (x = y) || s_ab s y x) with
  | true => rfl
  | false =>
    rw [if_pos (show b2i false = 0 from rfl), if_neg (show ¬ (5 : Int32) = 4 by decide), if_pos rfl, if_neg (show ¬ false = true by decide)]
    exact k_old hd (by omega)
/-! the model's -/
theorem v_term {v : gSt} {s : GS} {T G : NS} {Tx : Nat → Int32} {l b w : Nat} {r pl e : Int32} (hm : MA v s T G) (hg : GA s T G) (hT : tM v Tx l) (hwl : w ≤ l) (hbw : b < w) (hF : Fo T Tx b w r) : M_Model_termOf (ms v 0 pl (nI b) (nI w) e) = some (r, ms v 0 pl (nI b) (nI w) e) := by
  have hT' : tM (ms v 0 pl (nI b) (nI w) e) Tx l := hT
  exact p_termOf (u := ms v 0 pl (nI b) (nI w) e) hg.2.2.2.1 hg.2.1 hm.2.1 hm.2.2.2 hT' rfl rfl hbw hwl hF
theorem v_gene {v : gSt} {s : GS} {T G : NS} {Tx : Nat → Int32} {l b w : Nat} {r pl e : Int32} (hm : MA v s T G) (hg : GA s T G) (hT : tM v Tx l) (hwl : w ≤ l) (hbw : b < w) (hF : Fo G Tx b w r) : M_Model_geneOf (ms v 0 pl (nI b) (nI w) e) = some (r, ms v 0 pl (nI b) (nI w) e) := by
  have hT' : tM (ms v 0 pl (nI b) (nI w) e) Tx l := hT
  have hn := hg.1.2.1
  have hc := hg.2.2.2.2.1
  exact p_geneOf (u := ms v 0 pl (nI b) (nI w) e) (by omega) hg.2.2.1 hm.2.2.1 hg.2.2.2.2.2 hT' rfl rfl hbw hwl hF
theorem e_0 {v : gSt} {w e : Nat} {pl a x1 s0 : Int32} (hw : w < e) (he : e ≤ 40000) : M_Model_ends x1 s0 (ms v 0 pl a (nI w) (nI e)) = some (0, ms v 1 (nI (w + 1)) a (nI w) (nI e)) := by
  unfold M_Model_ends
  rw [if_pos (show (ms v 0 pl a (nI w) (nI e)).1 42 2 = 0 from rfl)]
  show (if nI e ≤ nI w then _ else _) = _
  rw [if_neg (show ¬ nI e ≤ nI w by rw [qi_le (by omega) (by omega)]; omega)]
  show (M_Model_stop 1 (nI w + nI 1) (ms v 0 pl a (nI w) (nI e))).bind _ = _
  rw [qi_add, p_stop]
  rfl
theorem e_1 {v : gSt} {pl a e x1 : Int32} : M_Model_ends x1 0 (ms v 0 pl a e e) = some (0, ms v 7 x1 a e e) := by
  unfold M_Model_ends M_Model_ends_b51
  rw [if_pos (show (ms v 0 pl a e e).1 42 2 = 0 from rfl)]
  show (if e ≤ e then _ else _) = _
  rw [if_pos (show e ≤ e from Int32.le_refl _), if_pos rfl, p_stop]
  rfl
theorem e_2 {v : gSt} {pl a e x1 : Int32} : M_Model_ends x1 1 (ms v 0 pl a e e) = some (1, ms v 0 pl a e e) := by
  unfold M_Model_ends M_Model_ends_b46 M_Model_ends_b51
  rw [if_pos (show (ms v 0 pl a e e).1 42 2 = 0 from rfl)]
  show (if e ≤ e then _ else _) = _
  rw [if_pos (show e ≤ e from Int32.le_refl _), if_neg (by decide)]
  rfl
theorem e_3 {v : gSt} {k pl a w e x1 s0 : Int32} (hk : ¬ k = 0) : M_Model_ends x1 s0 (ms v k pl a w e) = some (0, ms v k pl a w e) := by
  unfold M_Model_ends
  rw [if_neg (show ¬ (ms v k pl a w e).1 42 2 = 0 from hk)]
