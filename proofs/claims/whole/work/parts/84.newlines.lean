/-! The lines with a new name; every line. -/
theorem nw {Tx : Nat → Int32} {u v : gSt} {s : GS} {T G : NS} {l e cp : Nat} (hT : tD u Tx l) (hM : tM v Tx l) (hd : DA u s T G) (hm : MA v s T G) (hg : GA s T G) (he : e ≤ l) (hc : cp ≤ e) : ∃ k b w, k ≤ 6 ∧ w ≤ e ∧ (k = 0 → b < w ∧ nm Tx b w = true) ∧ (∀ (F B : Int64) (p q fr y0 : Int32), ∃ F' B', M_Clerk_readWord 1 (ds u F B p q fr (nI e) y0 (nI cp)) = some (nI k, ds u F' B' p q fr (nI e) (nI b) (nI w)) ∧ (k = 0 → F' = lN (pv (dg Tx b w 0) 6) ∧ B' = lN (pv (dg Tx b w 6) 6))) ∧ ∀ (K : gSt → Option gSt) (pl a : Int32), ∃ a', nx (ms v 0 pl a (nI cp) (nI e)) some (fun u => (M_Model_termOf u).bind fun q16 => if q16.1 = (-1 : Int32) then K q16.2 else (M_Model_stop (4 : Int32) (q16.2.1 42 22) q16.2).bind fun q29 => K q29.2) = if k = 0 then K (ms v 0 pl (nI b) (nI w) (nI e)) else if k = 4 then K (ms v 4 (nI b) (nI b) (nI w) (nI e)) else some (ms v (nI k) (nI b) a' (nI w) (nI e)) := by
  have ht := hg.1.1
  obtain ⟨f, b, w, hf, hb, hw, h0, hD, hN⟩ := rd hT hM he hc
  have hN' := fun (K : gSt → Option gSt) (pl a : Int32) => hN gSt some (fun u => (M_Model_termOf u).bind fun q16 => if q16.1 = (-1 : Int32) then K q16.2 else (M_Model_stop (4 : Int32) (q16.2.1 42 22) q16.2).bind fun q29 => K q29.2) pl a
  by_cases f0 : f = 0
  · subst f0
    obtain ⟨hbw, hn⟩ := h0 rfl
    obtain ⟨r, hr⟩ := fo_ex T Tx b w
    have ow := fun (F B : Int64) (p q fr y0 : Int32) => own5 (u := ds u F B p q fr (nI e) y0 (nI w)) (show DA (ds u F B p q fr (nI e) y0 (nI w)) s T G from hd) hg hn hbw hr
    have hk1 := fun (F B : Int64) (p q fr y0 : Int32) => (hD 1 F B p q fr y0).2 rfl
    have tv := fun (pl : Int32) => v_term (v := v) (pl := pl) (e := nI e) hm hg hM (by omega) hbw hr
    by_cases r1 : r = -1
    · refine ⟨0, b, w, by decide, hw, fun _ => ⟨hbw, hn⟩, fun F B p q fr y0 => ⟨_, _, ?_, fun _ => ⟨rfl, rfl⟩⟩, fun K pl a => ⟨0, ?_⟩⟩
      · rw [hk1]
        show M_Clerk_readWord_b94 1 _ _ 5 _ = _
        rw [w_new rfl (Or.inl rfl) (ow F B p q fr (nI b)), if_pos r1]
        rfl
      · obtain ⟨a', e9⟩ := hN' K pl a
        rw [e9, if_pos rfl, if_pos rfl]
        show ((M_Model_termOf (ms v 0 pl (nI b) (nI w) (nI e))).bind _) = _
        rw [tv, Option.bind_some, if_pos r1]
    · refine ⟨4, b, w, by decide, hw, fun h => (by cases h), fun F B p q fr y0 => ⟨lN (pv (dg Tx b w 0) 6), lN (pv (dg Tx b w 6) 6), ?_, fun h => (by cases h)⟩, fun K pl a => ⟨0, ?_⟩⟩
      · rw [hk1]
        show M_Clerk_readWord_b94 1 _ _ 5 _ = _
        rw [w_new rfl (Or.inl rfl) (ow F B p q fr (nI b)), if_neg r1]
        rfl
      · obtain ⟨a', e9⟩ := hN' K pl a
        rw [e9, if_pos rfl]
        show ((M_Model_termOf (ms v 0 pl (nI b) (nI w) (nI e))).bind _) = _
        rw [tv, Option.bind_some, if_neg r1]
        show ((M_Model_stop 4 (nI b) (ms v 0 pl (nI b) (nI w) (nI e))).bind _) = _
        rw [p_stop]
        rfl
  · refine ⟨f, b, w, by omega, hw, fun h => absurd h f0, fun F B p q fr y0 => ⟨F, B, (hD 1 F B p q fr y0).1 f0, fun h => absurd h f0⟩, fun K pl a => ?_⟩
    obtain ⟨a', e9⟩ := hN' K pl a
    refine ⟨a', ?_⟩
    rw [e9, if_neg f0, if_neg f0, if_neg (by omega)]
theorem nw9 {Tx : Nat → Int32} {u v : gSt} {s : GS} {T G : NS} {l e cp : Nat} (hT : tD u Tx l) (hM : tM v Tx l) (hd : DA u s T G) (hm : MA v s T G) (hg : GA s T G) (he : e ≤ l) (hc : cp ≤ e) : ∃ k b w, k ≤ 6 ∧ w ≤ e ∧ (k = 0 → b < w ∧ nm Tx b w = true) ∧ (∀ (F B : Int64) (p q fr y0 : Int32), ∃ F' B', M_Clerk_readWord 2 (ds u F B p q fr (nI e) y0 (nI cp)) = some (nI k, ds u F' B' p q fr (nI e) (nI b) (nI w)) ∧ (k = 0 → F' = lN (pv (dg Tx b w 0) 6) ∧ B' = lN (pv (dg Tx b w 6) 6))) ∧ ∀ (K : gSt → Option gSt) (pl a : Int32), ∃ a', nx (ms v 0 pl a (nI cp) (nI e)) some (fun u => (M_Model_geneOf u).bind fun q16 => if q16.1 = (-1 : Int32) then K q16.2 else (M_Model_stop (4 : Int32) (q16.2.1 42 22) q16.2).bind fun q29 => K q29.2) = if k = 0 then K (ms v 0 pl (nI b) (nI w) (nI e)) else if k = 4 then K (ms v 4 (nI b) (nI b) (nI w) (nI e)) else some (ms v (nI k) (nI b) a' (nI w) (nI e)) := by
  have ht := hg.1.1
  obtain ⟨f, b, w, hf, hb, hw, h0, hD, hN⟩ := rd hT hM he hc
  have hN' := fun (K : gSt → Option gSt) (pl a : Int32) => hN gSt some (fun u => (M_Model_geneOf u).bind fun q16 => if q16.1 = (-1 : Int32) then K q16.2 else (M_Model_stop (4 : Int32) (q16.2.1 42 22) q16.2).bind fun q29 => K q29.2) pl a
  by_cases f0 : f = 0
  · subst f0
    obtain ⟨hbw, hn⟩ := h0 rfl
    obtain ⟨r, hr⟩ := fo_ex G Tx b w
    have ow := fun (F B : Int64) (p q fr y0 : Int32) => own9 (u := ds u F B p q fr (nI e) y0 (nI w)) (show DA (ds u F B p q fr (nI e) y0 (nI w)) s T G from hd) hg hn hbw hr
    have hk1 := fun (F B : Int64) (p q fr y0 : Int32) => (hD 2 F B p q fr y0).2 rfl
    have tv := fun (pl : Int32) => v_gene (v := v) (pl := pl) (e := nI e) hm hg hM (by omega) hbw hr
    by_cases r1 : r = -1
    · refine ⟨0, b, w, by decide, hw, fun _ => ⟨hbw, hn⟩, fun F B p q fr y0 => ⟨_, _, ?_, fun _ => ⟨rfl, rfl⟩⟩, fun K pl a => ⟨0, ?_⟩⟩
      · rw [hk1]
        show M_Clerk_readWord_b94 2 _ _ 9 _ = _
        rw [w_new rfl (Or.inr rfl) (ow F B p q fr (nI b)), if_pos r1]
        rfl
      · obtain ⟨a', e9⟩ := hN' K pl a
        rw [e9, if_pos rfl, if_pos rfl]
        show ((M_Model_geneOf (ms v 0 pl (nI b) (nI w) (nI e))).bind _) = _
        rw [tv, Option.bind_some, if_pos r1]
    · refine ⟨4, b, w, by decide, hw, fun h => (by cases h), fun F B p q fr y0 => ⟨lN (pv (dg Tx b w 0) 6), lN (pv (dg Tx b w 6) 6), ?_, fun h => (by cases h)⟩, fun K pl a => ⟨0, ?_⟩⟩
      · rw [hk1]
        show M_Clerk_readWord_b94 2 _ _ 9 _ = _
        rw [w_new rfl (Or.inr rfl) (ow F B p q fr (nI b)), if_neg r1]
        rfl
      · obtain ⟨a', e9⟩ := hN' K pl a
        rw [e9, if_pos rfl]
        show ((M_Model_geneOf (ms v 0 pl (nI b) (nI w) (nI e))).bind _) = _
        rw [tv, Option.bind_some, if_neg r1]
        show ((M_Model_stop 4 (nI b) (ms v 0 pl (nI b) (nI w) (nI e))).bind _) = _
        rw [p_stop]
        rfl
  · refine ⟨f, b, w, by omega, hw, fun h => absurd h f0, fun F B p q fr y0 => ⟨F, B, (hD 2 F B p q fr y0).1 f0, fun h => absurd h f0⟩, fun K pl a => ?_⟩
    obtain ⟨a', e9⟩ := hN' K pl a
    refine ⟨a', ?_⟩
    rw [e9, if_neg f0, if_neg f0, if_neg (by omega)]
theorem pv_dg {Tx : Nat → Int32} {b w first : Nat} : lN (pv (dg Tx b w first) 6) = lN (pv (fun k => if first + k < w - b then (fun k => (Tx (b + k)).toInt.toNat) (first + k) else 0) 6) := rfl
theorem nm_l {Tx : Nat → Int32} {b w : Nat} (hn : nm Tx b w = true) : w - b ≤ 12 ∧ ∀ k, k < w - b → 1 ≤ (Tx (b + k)).toInt.toNat ∧ (Tx (b + k)).toInt.toNat < 128 := by
  unfold nm at hn
  rw [Bool.and_eq_true] at hn
  refine ⟨of_decide_eq_true hn.1, fun k hk => ?_⟩
  obtain ⟨y, hy, y1, y2⟩ := isL_r (al_at _ _ hn.2 k hk)
  rw [hy, nI_toInt (by omega)]
  omega
theorem full5 {u : gSt} {c : Nat} (hc : u.1 5 3 = nI c) (h : c ≤ 300) : M_NameList_isFull 5 u = some (b2i (decide (300 ≤ c)), u) := by
  unfold M_NameList_isFull M_NameList_isFull_b17
  show (if u.1 5 3 < nI 300 then gc (gZ 0) (some ((0 : Int32), u)) else gc (gZ 1) (some ((1 : Int32), u))) = _
  rw [hc]
  by_cases e : 300 ≤ c
  · rw [if_neg (by rw [qi_lt (by omega) (by omega)]; omega), decide_eq_true e]
    rfl
  · rw [if_pos ((qi_lt (by omega) (by omega)).mpr (by omega)), decide_eq_false e]
    rfl
theorem full9 {u : gSt} {c : Nat} (hc : u.1 9 3 = nI c) (h : c ≤ 200) : M_NameList_isFull 9 u = some (b2i (decide (200 ≤ c)), u) := by
  unfold M_NameList_isFull M_NameList_isFull_b17
  show (if u.1 9 3 < nI 200 then gc (gZ 0) (some ((0 : Int32), u)) else gc (gZ 1) (some ((1 : Int32), u))) = _
  rw [hc]
  by_cases e : 200 ≤ c
  · rw [if_neg (by rw [qi_lt (by omega) (by omega)]; omega), decide_eq_true e]
    rfl
  · rw [if_pos ((qi_lt (by omega) (by omega)).mpr (by omega)), decide_eq_false e]
    rfl
theorem can_add {u : gSt} {s : GS} {T G : NS} (hd : DA u s T G) (hg : GA s T G) : M_Board_canAddTerm u = some (b2i (decide (s_t s < 200) && decide (n_c T < 300)), u) := by
  have ht := hg.1.1
  have hc := hg.2.2.2.1
  unfold M_Board_canAddTerm M_Board_canAddTerm_b24 M_Board_canAddTerm_b25
  rw [hd.1.1, full5 hd.2.1.1 hc]
  by_cases e : s_t s < 200
  · rw [if_neg (show ¬ (200 : Int32) ≤ nI (s_t s) by rw [show (200 : Int32) = nI 200 from rfl, qi_le (by omega) (by omega)]; omega), decide_eq_true e, Bool.true_and, Option.bind_some]
    by_cases e2 : n_c T < 300
    · rw [decide_eq_true e2, decide_eq_false (by omega)]
      rfl
    · rw [decide_eq_false e2, decide_eq_true (by omega)]
      rfl
  · rw [if_pos (show (200 : Int32) ≤ nI (s_t s) from (qi_le (a := 200) (by omega) (by omega)).mpr (by omega)), decide_eq_false e]
    rfl
theorem ln_term {Tx : Nat → Int32} {u v : gSt} {s : GS} {T G : NS} {l e c w0 : Nat} {F B : Int64} {pl : Int32} (hT : tD u Tx l) (hM : tM v Tx l) (hd : DA u s T G) (hm : MA v s T G) (hg : GA s T G) (he : e ≤ l) (hc : w0 ≤ e) : LR e pl u v (dop 0 (ds u F B (-1) (-1) (nI c) (nI e) (nI c) (nI w0))) (M_Model_newTerm (nI c) (ms v 0 pl (nI c) (nI w0) (nI e))) := by
  have h4 := hT.1
  have ht := hg.1.1
  have hcT := hg.2.2.2.1
  obtain ⟨k, b, w, hk, hw, h0, hD, hN⟩ := nw hT hM hd hm hg he hc
  obtain ⟨F', B', e1, h1⟩ := hD F B (-1) (-1) (nI c) (nI c)
  obtain ⟨a', e2⟩ := hN (M_Model_newTerm_b33 (nI c)) pl (nI c)
  have e2' : M_Model_newTerm (nI c) (ms v 0 pl (nI c) (nI w0) (nI e)) = _ := e2
  rw [dop_1 (by decide) rfl rfl, e2']
  show LR e pl u v ((M_Clerk_readWord 1 _).bind _) _
  rw [e1, Option.bind_some]
  by_cases k0 : k = 0
  · subst k0
    obtain ⟨hbw, hn⟩ := h0 rfl
    obtain ⟨rfl, rfl⟩ := h1 rfl
    rw [if_pos rfl]
    show LR e pl u v (M_Clerk_doLine_b58 0 0 _) _
    have m1 := hm.1.1
    have n1 := hm.2.1.1
    have room : M_Model_newTerm_b33 (nI c) (ms v 0 pl (nI b) (nI w) (nI e)) = M_Model_newTerm_b60 (b2i (decide (s_t s < 200) && decide (n_c T < 300))) (nI c) (ms v 0 pl (nI b) (nI w) (nI e)) := by
      unfold M_Model_newTerm_b33 M_Model_newTerm_b59
      rw [show (ms v 0 pl (nI b) (nI w) (nI e)).1 42 11 = nI (s_t s) from m1, show (ms v 0 pl (nI b) (nI w) (nI e)).1 42 7 = nI (n_c T) from n1]
      by_cases c1 : s_t s < 200
      · rw [if_neg (show ¬ (200 : Int32) ≤ nI (s_t s) by rw [show (200 : Int32) = nI 200 from rfl, qi_le (by omega) (by omega)]; omega), decide_eq_true c1, Bool.true_and]
        by_cases c2 : n_c T < 300
        · rw [if_neg (show ¬ (300 : Int32) ≤ nI (n_c T) by rw [show (300 : Int32) = nI 300 from rfl, qi_le (by omega) (by omega)]; omega), decide_eq_true c2]
          rfl
        · rw [if_pos (show (300 : Int32) ≤ nI (n_c T) from (qi_le (a := 300) (by omega) (by omega)).mpr (by omega)), decide_eq_false c2]
          rfl
      · rw [if_pos (show (200 : Int32) ≤ nI (s_t s) from (qi_le (a := 200) (by omega) (by omega)).mpr (by omega)), decide_eq_false c1]
        rfl
    rw [room]
    unfold M_Model_newTerm_b60
    by_cases c1 : w < e
    · rw [b58_1 hT he c1, e_0 c1 (by omega)]
      exact lr_f (k := 1) hg hd hm (by decide) (by decide)
    · obtain rfl : w = e := by omega
      rw [b58_0 hT he, kz_0, can_add (u := ds u (lN (pv (dg Tx b w 0) 6)) (lN (pv (dg Tx b w 6) 6)) (-1) (-1) (nI c) (nI w) (nI w) (nI w)) (s := s) (T := T) (G := G) hd hg, Option.bind_some]
      by_cases c2 : s_t s < 200 ∧ n_c T < 300
      · obtain ⟨c3, c4⟩ := c2
        rw [decide_eq_true c3, decide_eq_true c4, Bool.true_and, if_neg (show ¬ b2i true = 0 by decide)]
        show LR w pl u v ((M_Board_addTerm (lN (pv (dg Tx b w 0) 6)) (lN (pv (dg Tx b w 6) 6)) _).bind _) ((M_Model_ends (nI c) 1 _).bind _)
        obtain ⟨u', x1, x2, x3⟩ := o_addTerm (u := ds u (lN (pv (dg Tx b w 0) 6)) (lN (pv (dg Tx b w 6) 6)) (-1) (-1) (nI c) (nI w) (nI w) (nI w)) (s := s) (T := T) (G := G) (z := w - b) (l := fun k => (Tx (b + k)).toInt.toNat) hd hg c3 c4 pv_dg pv_dg
        rw [x1, Option.bind_some, e_2, Option.bind_some, if_neg (show ¬ (1 : Int32) = 0 by decide)]
        have hM' : tM (ms v 0 pl (nI b) (nI w) (nI w)) Tx l := hM
        obtain ⟨v', y1, y2, y3, y4⟩ := q_addName (u := ms v 0 pl (nI b) (nI w) (nI w)) (s := s) (T := T) (G := G) (o := s_t s) hm hg hM' he hbw hn c4
        show LR w pl u v _ ((M_Model_addName (nI b) (nI w - nI b) (v.1 42 11) (ms v 0 pl (nI b) (nI w) (nI w))).bind _)
        rw [qi_sub (by omega) (by omega), m1, y1, Option.bind_some]
        have y5 : v'.1 42 11 = nI (s_t s) := y4.1.1
        obtain ⟨l1, l2⟩ := nm_l hn
        rw [y5, gc_t (qi_in (n := gLen 49) (by omega) (show s_t s < 200 from c3)), qi_ix (by omega), Option.bind_some]
        show LR w pl u v _ (some (gsF (gsA v' 49 (s_t s) 0) 42 11 (v'.1 42 11 + nI 1)))
        rw [y5, qi_add]
        have hgd := Gd_add hg.1 c3
        have hgn : Gn (n_push T (w - b) (fun k => (Tx (b + k)).toInt.toNat) (s_t s)) (s_t s + 1) := Gn_push hg.2.1 (by omega) l1 l2 (by omega) (by omega) (fun y hy => by omega)
        exact lr_0 (s := s_add s) ⟨hgd, hgn, hg.2.2.1, (show n_c T + 1 ≤ 300 by omega), hg.2.2.2.2⟩ x3 (q_add y4 hg.1 c3) y3.1 y3.2 x2 (FM_t y2 (FM_t (FM_A (by decide) (by decide)) (FM_F (by decide) (by decide))))
      · have e9 : (decide (s_t s < 200) && decide (n_c T < 300)) = false := by
          by_cases c3 : s_t s < 200
          · rw [decide_eq_false (show ¬ n_c T < 300 from fun h => c2 ⟨c3, h⟩), Bool.and_false]
          · rw [decide_eq_false c3, Bool.false_and]
        rw [e9, if_pos (show b2i false = 0 from rfl)]
        show LR w pl u v _ ((M_Model_ends (nI c) 0 _).bind _)
        rw [e_1]
        exact lr_7 hg hd hm
  · rw [if_neg k0, b58_f (nk k0 hk)]
    by_cases k4 : k = 4
    · subst k4
      rw [if_pos rfl]
      have e9 : M_Model_newTerm_b33 (nI c) (ms v 4 (nI b) (nI b) (nI w) (nI e)) = some (ms v 4 (nI b) (nI b) (nI w) (nI e)) := by
        unfold M_Model_newTerm_b33 M_Model_newTerm_b59 M_Model_newTerm_b60
        have E0 := e_3 (v := v) (k := 4) (pl := nI b) (a := nI b) (w := nI w) (e := nI e) (x1 := nI c) (s0 := 0) (by decide)
        have E1 := e_3 (v := v) (k := 4) (pl := nI b) (a := nI b) (w := nI w) (e := nI e) (x1 := nI c) (s0 := 1) (by decide)
        rw [E0, E1]
        split
        · rfl
        · split
          · rfl
          · rfl
      rw [e9]
      exact lr_f (k := 4) hg hd hm (by decide) (by decide)
    · rw [if_neg k4]
      exact lr_f hg hd hm (by omega) hk
theorem ln_gene {Tx : Nat → Int32} {u v : gSt} {s : GS} {T G : NS} {l e c w0 : Nat} {F B : Int64} {pl : Int32} (hT : tD u Tx l) (hM : tM v Tx l) (hd : DA u s T G) (hm : MA v s T G) (hg : GA s T G) (he : e ≤ l) (hc : w0 ≤ e) : LR e pl u v (dop 5 (ds u F B (-1) (-1) (nI c) (nI e) (nI c) (nI w0))) (M_Model_gene (nI c) (ms v 0 pl (nI c) (nI w0) (nI e))) := by
  have h4 := hT.1
  have hn9 := hg.1.2.1
  have hcG := hg.2.2.2.2.1
  obtain ⟨k, b, w, hk, hw, h0, hD, hN⟩ := nw9 hT hM hd hm hg he hc
  obtain ⟨F', B', e1, h1⟩ := hD F B (-1) (-1) (nI c) (nI c)
  obtain ⟨a', e2⟩ := hN (M_Model_gene_b33 (nI c)) pl (nI c)
  have e2' : M_Model_gene (nI c) (ms v 0 pl (nI c) (nI w0) (nI e)) = _ := e2
  rw [dop_1 (by decide) rfl rfl, e2']
  show LR e pl u v ((M_Clerk_readWord 2 _).bind _) _
  rw [e1, Option.bind_some]
  by_cases k0 : k = 0
  · subst k0
    obtain ⟨hbw, hn⟩ := h0 rfl
    obtain ⟨rfl, rfl⟩ := h1 rfl
    rw [if_pos rfl]
    show LR e pl u v (M_Clerk_doLine_b58 5 0 _) _
    have m2 := hm.1.2.1
    have room : M_Model_gene_b33 (nI c) (ms v 0 pl (nI b) (nI w) (nI e)) = M_Model_gene_b50 (b2i (decide (s_n s < 200))) (nI c) (ms v 0 pl (nI b) (nI w) (nI e)) := by
      unfold M_Model_gene_b33
      rw [show (ms v 0 pl (nI b) (nI w) (nI e)).1 42 10 = nI (s_n s) from m2]
      by_cases c1 : s_n s < 200
      · rw [if_neg (show ¬ (200 : Int32) ≤ nI (s_n s) by rw [show (200 : Int32) = nI 200 from rfl, qi_le (by omega) (by omega)]; omega), decide_eq_true c1]
        rfl
      · rw [if_pos (show (200 : Int32) ≤ nI (s_n s) from (qi_le (a := 200) (by omega) (by omega)).mpr (by omega)), decide_eq_false c1]
        rfl
    rw [room]
    unfold M_Model_gene_b50
    by_cases c1 : w < e
    · rw [b58_1 hT he c1, e_0 c1 (by omega)]
      exact lr_f (k := 1) hg hd hm (by decide) (by decide)
    · obtain rfl : w = e := by omega
      rw [b58_0 hT he, kz_5, full9 (u := ds u (lN (pv (dg Tx b w 0) 6)) (lN (pv (dg Tx b w 6) 6)) (-1) (-1) (nI c) (nI w) (nI w) (nI w)) (c := s_n s) hd.1.2.1 hn9, Option.bind_some]
      by_cases c3 : s_n s < 200
      · rw [decide_eq_true c3, decide_eq_false (show ¬ 200 ≤ s_n s by omega), if_pos (show b2i false = 0 from rfl)]
        show LR w pl u v ((M_Board_addGene (lN (pv (dg Tx b w 0) 6)) (lN (pv (dg Tx b w 6) 6)) _).bind _) ((M_Model_ends (nI c) 1 _).bind _)
        obtain ⟨u', x1, x2, x3⟩ := o_addGene (u := ds u (lN (pv (dg Tx b w 0) 6)) (lN (pv (dg Tx b w 6) 6)) (-1) (-1) (nI c) (nI w) (nI w) (nI w)) (s := s) (T := T) (G := G) (z := w - b) (l := fun k => (Tx (b + k)).toInt.toNat) hd hg c3 pv_dg pv_dg
        rw [x1, Option.bind_some, e_2, Option.bind_some, if_neg (show ¬ (1 : Int32) = 0 by decide)]
        have hM' : tM (ms v 0 pl (nI b) (nI w) (nI w)) Tx l := hM
        obtain ⟨v', y1, y2, y3, y4⟩ := q_gen (u := ms v 0 pl (nI b) (nI w) (nI w)) (s := s) (T := T) (G := G) hm hg hM' he hbw hn c3 rfl rfl
        obtain ⟨l1, l2⟩ := nm_l hn
        rw [y1]
        have hgd := Gd_gen hg.1 c3
        have hgn : Gn (n_push G (w - b) (fun k => (Tx (b + k)).toInt.toNat) (s_n s)) (s_n s + 1) := Gn_push hg.2.2.1 (by omega) l1 l2 (by omega) (by omega) (fun y hy => by omega)
        refine lr_0 (s := s_gen s) ⟨hgd, hg.2.1, hgn, hg.2.2.2.1, (show n_c G + 1 = s_n s + 1 by omega), fun i hi => ?_⟩ x3 y4 y3.1 y3.2 x2 y2
        have hi' : i < n_c G + 1 := hi
        show (if i = n_c G then s_n s else n_o G i) = i
        by_cases ei : i = n_c G
        · rw [if_pos ei]
          omega
        · rw [if_neg ei]
          exact hg.2.2.2.2.2 i (by omega)
      · rw [decide_eq_false c3, decide_eq_true (show 200 ≤ s_n s by omega), if_neg (show ¬ b2i true = 0 by decide)]
        show LR w pl u v _ ((M_Model_ends (nI c) 0 _).bind _)
        rw [e_1]
        exact lr_7 hg hd hm
  · rw [if_neg k0, b58_f (nk k0 hk)]
    by_cases k4 : k = 4
    · subst k4
      rw [if_pos rfl]
      have e9 : M_Model_gene_b33 (nI c) (ms v 4 (nI b) (nI b) (nI w) (nI e)) = some (ms v 4 (nI b) (nI b) (nI w) (nI e)) := by
        unfold M_Model_gene_b33 M_Model_gene_b50
        have E0 := e_3 (v := v) (k := 4) (pl := nI b) (a := nI b) (w := nI w) (e := nI e) (x1 := nI c) (s0 := 0) (by decide)
        have E1 := e_3 (v := v) (k := 4) (pl := nI b) (a := nI b) (w := nI w) (e := nI e) (x1 := nI c) (s0 := 1) (by decide)
        rw [E0, E1]
        split
        · rfl
        · rfl
      rw [e9]
      exact lr_f (k := 4) hg hd hm (by decide) (by decide)
    · rw [if_neg k4]
      exact lr_f hg hd hm (by omega) hk
theorem ln_also {Tx : Nat → Int32} {u v : gSt} {s : GS} {T G : NS} {l e c w0 : Nat} {F B : Int64} {pl : Int32} (hT : tD u Tx l) (hM : tM v Tx l) (hd : DA u s T G) (hm : MA v s T G) (hg : GA s T G) (he : e ≤ l) (hc : w0 ≤ e) : LR e pl u v (dop 1 (ds u F B (-1) (-1) (nI c) (nI e) (nI c) (nI w0))) (M_Model_alias (nI c) (ms v 0 pl (nI c) (nI w0) (nI e))) := by
  have h4 := hT.1
  have ht := hg.1.1
  have hcT := hg.2.2.2.1
  obtain ⟨k, b, w, hk, hw, h0, hD, hN⟩ := nw hT hM hd hm hg he hc
  obtain ⟨F', B', e1, h1⟩ := hD F B (-1) (-1) (nI c) (nI c)
  obtain ⟨a', e2⟩ := hN (M_Model_alias_b33 (nI c)) pl (nI c)
  have e2' : M_Model_alias (nI c) (ms v 0 pl (nI c) (nI w0) (nI e)) = _ := e2
  rw [dop_2 (x := 1) (y := 4) (by decide) rfl rfl (by decide), e2', e1, Option.bind_some]
  by_cases k0 : k = 0
  · subst k0
    obtain ⟨hbw, hn⟩ := h0 rfl
    obtain ⟨rfl, rfl⟩ := h1 rfl
    rw [if_pos rfl]
    obtain ⟨k2, b2, w2, y, hk2, hw2, h02, hD2, hN2⟩ := kn4 hT hM hd hm hg he hw
    obtain ⟨p2, q2, f1, g1⟩ := hD2 (lN (pv (dg Tx b w 0) 6)) (lN (pv (dg Tx b w 6) 6)) (-1) (-1) (nI c) (nI b)
    obtain ⟨r2, a2, f2, g2⟩ := hN2 pl (nI b)
    show LR e pl u v ((M_Clerk_readWord 4 _).bind _) _
    unfold M_Model_alias_b33
    rw [f1, Option.bind_some, if_pos (show (ms v 0 pl (nI b) (nI w) (nI e)).1 42 2 = 0 from rfl), f2, Option.bind_some]
    have n1 := hm.2.1.1
    by_cases k20 : k2 = 0
    · subst k20
      obtain ⟨hy, hoy⟩ := h02 rfl
      obtain ⟨rfl, rfl⟩ := g1 rfl
      obtain rfl := g2 rfl
      rw [if_pos (show (0 : Nat) = 0 from rfl), show (ms v 0 pl (nI b2) (nI w2) (nI e)).1 42 7 = nI (n_c T) from n1]
      show LR e pl u v (M_Clerk_doLine_b58 1 0 _) (if (300 : Int32) ≤ nI (n_c T) then M_Model_alias_b79 (nI b) (nI w - nI b) (nI y) 0 (nI c) (ms v 0 pl (nI b2) (nI w2) (nI e)) else M_Model_alias_b79 (nI b) (nI w - nI b) (nI y) 1 (nI c) (ms v 0 pl (nI b2) (nI w2) (nI e)))
      unfold M_Model_alias_b79 M_Model_alias_b93
      by_cases c1 : w2 < e
      · have E0 := e_0 (v := v) (pl := pl) (a := nI b2) (x1 := nI c) (s0 := 0) c1 (by omega)
        have E1 := e_0 (v := v) (pl := pl) (a := nI b2) (x1 := nI c) (s0 := 1) c1 (by omega)
        have fin := lr_f (e := e) (k := 1) (b := w2 + 1) (pl0 := pl) (F := lN (pv (dg Tx b w 0) 6)) (B := lN (pv (dg Tx b w 6) 6)) (p := -1) (q := nI y) (f := nI c) (w := nI (wd Tx 32 (e - (w2 + 1)) (w2 + 1))) (a := nI b2) (w' := nI w2) (e' := nI e) hg hd hm (by decide) (by decide)
        rw [b58_1 hT he c1, E0, E1]
        split
        · exact fin
        · exact fin
      · obtain rfl : w2 = e := by omega
        rw [b58_0 hT he, kz_1, full5 (u := ds u (lN (pv (dg Tx b w 0) 6)) (lN (pv (dg Tx b w 6) 6)) (-1) (nI y) (nI c) (nI w2) (nI w2) (nI w2)) (c := n_c T) hd.2.1.1 hcT, Option.bind_some]
        by_cases c2 : n_c T < 300
        · rw [decide_eq_false (show ¬ 300 ≤ n_c T by omega), if_pos (show b2i false = 0 from rfl), if_neg (show ¬ (300 : Int32) ≤ nI (n_c T) by rw [show (300 : Int32) = nI 300 from rfl, qi_le (by omega) (by omega)]; omega), e_2, Option.bind_some, if_neg (show ¬ (1 : Int32) = 0 by decide)]
          obtain ⟨u', x1, x2, x3⟩ := o_addName (u := ds u (lN (pv (dg Tx b w 0) 6)) (lN (pv (dg Tx b w 6) 6)) (-1) (nI y) (nI c) (nI w2) (nI w2) (nI w2)) (s := s) (T := T) (G := G) (z := w - b) (l := fun k => (Tx (b + k)).toInt.toNat) (o := y) hd c2 pv_dg pv_dg
          have hM' : tM (ms v 0 pl (nI b2) (nI w2) (nI w2)) Tx l := hM
          obtain ⟨v', y1, y2, y3, y4⟩ := q_addName (u := ms v 0 pl (nI b2) (nI w2) (nI w2)) (s := s) (T := T) (G := G) (b := b) (w := w) (o := y) hm hg hM' (by omega) hbw hn c2
          show LR w2 pl u v ((M_NameList_add 5 (lN (pv (dg Tx b w 0) 6)) (lN (pv (dg Tx b w 6) 6)) (nI y) _).bind _) _
          rw [x1, Option.bind_some, qi_sub (by omega) (by omega), y1, Option.bind_some]
          obtain ⟨l1, l2⟩ := nm_l hn
          have hgn : Gn (n_push T (w - b) (fun k => (Tx (b + k)).toInt.toNat) y) (s_t s) := Gn_push hg.2.1 (by omega) l1 l2 hy (Nat.le_refl _) (fun y hy => Or.inl hy)
          exact lr_0 (s := s) ⟨hg.1, hgn, hg.2.2.1, (show n_c T + 1 ≤ 300 by omega), hg.2.2.2.2⟩ x3 y4 y3.1 y3.2 x2 y2
        · rw [decide_eq_true (show 300 ≤ n_c T by omega), if_neg (show ¬ b2i true = 0 by decide), if_pos (show (300 : Int32) ≤ nI (n_c T) from (qi_le (a := 300) (by omega) (by omega)).mpr (by omega)), e_1, Option.bind_some, if_pos rfl]
          exact lr_7 hg hd hm
    · rw [if_neg k20, b58_f (nk k20 hk2)]
      unfold M_Model_alias_b79 M_Model_alias_b93
      have E0 := e_3 (v := v) (k := nI k2) (pl := nI b2) (a := a2) (w := nI w2) (e := nI e) (x1 := nI c) (s0 := 0) (nk k20 hk2)
      have E1 := e_3 (v := v) (k := nI k2) (pl := nI b2) (a := a2) (w := nI w2) (e := nI e) (x1 := nI c) (s0 := 1) (nk k20 hk2)
      have fin := lr_f (e := e) (k := k2) (b := b2) (pl0 := pl) (F := lN (pv (dg Tx b w 0) 6)) (B := lN (pv (dg Tx b w 6) 6)) (p := p2) (q := q2) (f := nI c) (w := nI w2) (a := a2) (w' := nI w2) (e' := nI e) hg hd hm (by omega) hk2
      show LR e pl u v _ (if (300 : Int32) ≤ (ms v (nI k2) (nI b2) a2 (nI w2) (nI e)).1 42 7 then _ else _)
      rw [E0, E1]
      split
      · exact fin
      · exact fin
  · rw [if_neg k0, if_neg (nk k0 hk), b58_f (nk k0 hk)]
    by_cases k4 : k = 4
    · subst k4
      rw [if_pos rfl]
      have e9 : M_Model_alias_b33 (nI c) (ms v 4 (nI b) (nI b) (nI w) (nI e)) = some (ms v 4 (nI b) (nI b) (nI w) (nI e)) := by
        unfold M_Model_alias_b33
        rw [if_neg (show ¬ (ms v 4 (nI b) (nI b) (nI w) (nI e)).1 42 2 = 0 from (show ¬ (4 : Int32) = 0 by decide))]
      rw [e9]
      exact lr_f (k := 4) hg hd hm (by decide) (by decide)
    · rw [if_neg k4]
      exact lr_f hg hd hm (by omega) hk
theorem mop_n {c : Int32} {S : gSt} : mop none c S = (M_Model_stop 1 c S).bind fun q => some q.2 := by
  unfold mop
  rfl
/-- every line: the same fault at the same place, the same state behind -/
theorem ln {Tx : Nat → Int32} {u v : gSt} {s : GS} {T G : NS} {l e c : Nat} {F B : Int64} {p q y pl a w e' : Int32} (hT : tD u Tx l) (hM : tM v Tx l) (hd : DA u s T G) (hm : MA v s T G) (hg : GA s T G) (he : e ≤ l) (hc : c < e) : LR e pl u v (M_Clerk_doLine (ds u F B p q (nI c) (nI e) y (nI c - (1 : Int32)))) (M_Model_line (nI c) (nI e) (ms v 0 pl a w e')) := by
  rw [p_doLine hT he hc, p_mline hM he hc]
  have hw := wd_ge (T := Tx) (c := 32) (e - c) c
  generalize wd Tx 32 (e - c) c = w0 at hw ⊢
  have hk9 := kf_lt (P := kb Tx c w0) 9 0
  generalize kf (kb Tx c w0) 9 0 = i at hk9 ⊢
  cases i with
  | none =>
    rw [mop_n, p_stop]
    exact lr_f (k := 1) hg hd hm (by decide) (by decide)
  | some i =>
    have hi := hk9 i rfl
    have hw0 : w0 ≤ e := by omega
    rcases (by omega : i = 0 ∨ i = 1 ∨ i = 2 ∨ i = 3 ∨ i = 4 ∨ i = 5 ∨ i = 6 ∨ i = 7 ∨ i = 8) with rfl | rfl | rfl | rfl | rfl | rfl | rfl | rfl | rfl
    · exact ln_term hT hM hd hm hg he hw0
    · exact ln_also hT hM hd hm hg he hw0
    · exact ln_lnk (Or.inl rfl) hT hM hd hm hg he hw0
    · exact ln_lnk (Or.inr rfl) hT hM hd hm hg he hw0
    · exact ln_old hT hM hd hm hg he hw0
    · exact ln_gene hT hM hd hm hg he hw0
    · exact ln_note hT hM hd hm hg he hw0 true
    · exact ln_note hT hM hd hm hg he hw0 false
    · exact ln_stu hT hM hd hm hg he hw0
