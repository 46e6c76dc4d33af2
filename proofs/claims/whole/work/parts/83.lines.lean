/-! The nine kinds of lines. -/
theorem kz_0 {S : gSt} : M_Clerk_carryOut 0 S = (M_Board_canAddTerm S).bind fun q60 => if q60.1 = (0 : Int32) then some ((7 : Int32), q60.2) else (M_Board_addTerm (q60.2.2.1 1 4) (q60.2.2.1 1 5) q60.2).bind fun q81 => some ((0 : Int32), q81) := by
  have hv : gSwt.getD (gIx (nI 0)) 0 = 1 := by decide
  unfold M_Clerk_carryOut
  rw [gc_t (by decide), gc_t (by decide), hv, if_pos rfl]
theorem kz_1 {S : gSt} : M_Clerk_carryOut 1 S = (M_NameList_isFull 5 S).bind fun q93 => if q93.1 = (0 : Int32) then (M_NameList_add 5 (q93.2.2.1 1 4) (q93.2.2.1 1 5) (q93.2.1 1 7) q93.2).bind fun q121 => some ((0 : Int32), q121) else some ((7 : Int32), q93.2) := by
  have hv : gSwt.getD (gIx (nI 1)) 0 = 2 := by decide
  unfold M_Clerk_carryOut
  rw [gc_t (by decide), gc_t (by decide), hv, if_neg (by decide), if_pos rfl]
theorem kz_2 {S : gSt} {i : Nat} (hi : i = 2 ∨ i = 3) : M_Clerk_carryOut i S = (M_Board_canLink (S.1 1 6) (S.1 1 7) S).bind fun q138 => if q138.1 = (0 : Int32) then some ((7 : Int32), q138.2) else (M_Board_link (q138.2.1 1 6) (q138.2.1 1 7) q138.2).bind fun q159 => some ((0 : Int32), q159) := by
  rcases hi with rfl | rfl
  · have hv : gSwt.getD (gIx (nI 2)) 0 = 3 := by decide
    unfold M_Clerk_carryOut
    rw [gc_t (by decide), gc_t (by decide), hv, if_neg (by decide), if_neg (by decide), if_pos rfl]
  · have hv : gSwt.getD (gIx (nI 3)) 0 = 4 := by decide
    unfold M_Clerk_carryOut
    rw [gc_t (by decide), gc_t (by decide), hv, if_neg (by decide), if_neg (by decide), if_neg (by decide), if_pos rfl]
theorem kz_4 {S : gSt} : M_Clerk_carryOut 4 S = (M_Grid_put 21 (0 : Int32) (S.1 1 7) S).bind fun q176 => some ((0 : Int32), q176) := by
  have hv : gSwt.getD (gIx (nI 4)) 0 = 5 := by decide
  unfold M_Clerk_carryOut
  rw [gc_t (by decide), gc_t (by decide), hv, if_neg (by decide), if_neg (by decide), if_neg (by decide), if_neg (by decide), if_pos rfl]
theorem kz_5 {S : gSt} : M_Clerk_carryOut 5 S = (M_NameList_isFull 9 S).bind fun q188 => if q188.1 = (0 : Int32) then (M_Board_addGene (q188.2.2.1 1 4) (q188.2.2.1 1 5) q188.2).bind fun q209 => some ((0 : Int32), q209) else some ((7 : Int32), q188.2) := by
  have hv : gSwt.getD (gIx (nI 5)) 0 = 6 := by decide
  unfold M_Clerk_carryOut
  rw [gc_t (by decide), gc_t (by decide), hv, if_neg (by decide), if_neg (by decide), if_neg (by decide), if_neg (by decide), if_neg (by decide), if_pos rfl]
theorem kz_6 {S : gSt} : M_Clerk_carryOut 6 S = (M_Board_canNote (S.1 1 6) (S.1 1 7) S).bind fun q226 => if q226.1 = (0 : Int32) then some ((7 : Int32), q226.2) else (M_Board_note (q226.2.1 1 6) (q226.2.1 1 7) q226.2).bind fun q247 => some ((0 : Int32), q247) := by
  have hv : gSwt.getD (gIx (nI 6)) 0 = 7 := by decide
  unfold M_Clerk_carryOut
  rw [gc_t (by decide), gc_t (by decide), hv, if_neg (by decide), if_neg (by decide), if_neg (by decide), if_neg (by decide), if_neg (by decide), if_neg (by decide), if_pos rfl]
theorem kz_7 {S : gSt} : M_Clerk_carryOut 7 S = some ((0 : Int32), S) := by
  have hv : gSwt.getD (gIx (nI 7)) 0 = 0 := by decide
  unfold M_Clerk_carryOut
  rw [gc_t (by decide), gc_t (by decide), hv, if_neg (by decide), if_neg (by decide), if_neg (by decide), if_neg (by decide), if_neg (by decide), if_neg (by decide), if_neg (by decide), if_neg (by decide)]
theorem kz_8 {S : gSt} : M_Clerk_carryOut 8 S = (M_Grid_put 23 (0 : Int32) (S.1 1 7) S).bind fun q264 => some ((0 : Int32), q264) := by
  have hv : gSwt.getD (gIx (nI 8)) 0 = 8 := by decide
  unfold M_Clerk_carryOut
  rw [gc_t (by decide), gc_t (by decide), hv, if_neg (by decide), if_neg (by decide), if_neg (by decide), if_neg (by decide), if_neg (by decide), if_neg (by decide), if_neg (by decide), if_pos rfl]
theorem nk {k : Nat} (h1 : k ≠ 0) (h2 : k ≤ 6) : ¬ nI k = 0 := by
  rw [show (0 : Int32) = nI 0 from rfl, qi_eq (by omega) (by omega)]
  exact h1
theorem ln_old {Tx : Nat → Int32} {u v : gSt} {s : GS} {T G : NS} {l e c w0 : Nat} {F B : Int64} {pl : Int32} (hT : tD u Tx l) (hM : tM v Tx l) (hd : DA u s T G) (hm : MA v s T G) (hg : GA s T G) (he : e ≤ l) (hc : w0 ≤ e) : LR e pl u v (dop 4 (ds u F B (-1) (-1) (nI c) (nI e) (nI c) (nI w0))) (mop (some 4) (nI c) (ms v 0 pl (nI c) (nI w0) (nI e))) := by
  have h4 := hT.1
  have ht := hg.1.1
  obtain ⟨k, b, w, y, hk, hw, h0, hD, -, -, hN⟩ := kn3 hT hM hd hm hg he hc
  obtain ⟨p', q', e1, h1⟩ := hD F B (-1) (-1) (nI c) (nI c)
  obtain ⟨r, a', e2, h2⟩ := hN pl (nI c)
  rw [dop_1 (by decide) rfl rfl]
  show LR e pl u v ((M_Clerk_readWord 3 _).bind _) ((M_Model_termNext _).bind _)
  rw [e1, e2, Option.bind_some, Option.bind_some]
  by_cases k0 : k = 0
  · subst k0
    have hy := h0 rfl
    obtain ⟨rfl, rfl⟩ := h1 rfl
    obtain rfl := h2 rfl
    rw [if_pos rfl]
    show LR e pl u v (M_Clerk_doLine_b58 4 0 _) ((M_Model_ends (nI c) 1 _).bind _)
    by_cases c1 : w < e
    · rw [b58_1 hT he c1, e_0 c1 (by omega)]
      exact lr_f (k := 1) hg hd hm (by decide) (by decide)
    · obtain rfl : w = e := by omega
      rw [b58_0 hT he, e_2, kz_4]
      obtain ⟨u', x1, x2, x3⟩ := o_old (u := ds u F B (-1) (nI y) (nI c) (nI w) (nI w) (nI w)) (s := s) (t := y) hd.1 (by omega)
      show LR w pl u v ((M_Grid_put 21 (0 : Int32) (nI y) _).bind _) _
      rw [x1, Option.bind_some]
      show LR w pl u v _ (gc (gIn (nI y) (gLen 49)) (some (gsA (ms v 0 pl (nI b) (nI w) (nI w)) 49 (gIx (nI y)) 1)))
      rw [gc_t (qi_in (n := gLen 49) (by omega) (show y < 200 by omega)), qi_ix (by omega)]
      have hg' : GA (s_old s y) T G := ⟨Gd_old hg.1 hy, hg.2.1, hg.2.2.1, hg.2.2.2⟩
      exact lr_0 hg' (FG_A x2 hd x3) (q_old (u := ms v 0 pl (nI b) (nI w) (nI w)) hm hy) rfl rfl (FO_G x2) (FM_A (by decide) (by decide))
  · rw [if_neg k0, b58_f (nk k0 hk), e_3 (nk k0 hk)]
    exact lr_f hg hd hm (by omega) hk
theorem ln_stu {Tx : Nat → Int32} {u v : gSt} {s : GS} {T G : NS} {l e c w0 : Nat} {F B : Int64} {pl : Int32} (hT : tD u Tx l) (hM : tM v Tx l) (hd : DA u s T G) (hm : MA v s T G) (hg : GA s T G) (he : e ≤ l) (hc : w0 ≤ e) : LR e pl u v (dop 8 (ds u F B (-1) (-1) (nI c) (nI e) (nI c) (nI w0))) (mop (some 8) (nI c) (ms v 0 pl (nI c) (nI w0) (nI e))) := by
  have h4 := hT.1
  have hn := hg.1.2.1
  obtain ⟨k, b, w, y, hk, hw, h0, hD, hN⟩ := kn6 hT hM hd hm hg he hc
  obtain ⟨p', q', e1, h1⟩ := hD F B (-1) (-1) (nI c) (nI c)
  obtain ⟨r, a', e2, h2⟩ := hN pl (nI c)
  rw [dop_1 (by decide) rfl rfl]
  show LR e pl u v ((M_Clerk_readWord 6 _).bind _) ((M_Model_geneNext _).bind _)
  rw [e1, e2, Option.bind_some, Option.bind_some]
  by_cases k0 : k = 0
  · subst k0
    have hy := h0 rfl
    obtain ⟨rfl, rfl⟩ := h1 rfl
    obtain rfl := h2 rfl
    rw [if_pos rfl]
    show LR e pl u v (M_Clerk_doLine_b58 8 0 _) ((M_Model_ends (nI c) 1 _).bind _)
    by_cases c1 : w < e
    · rw [b58_1 hT he c1, e_0 c1 (by omega)]
      exact lr_f (k := 1) hg hd hm (by decide) (by decide)
    · obtain rfl : w = e := by omega
      rw [b58_0 hT he, e_2, kz_8]
      obtain ⟨u', x1, x2, x3⟩ := o_stu (u := ds u F B (-1) (nI y) (nI c) (nI w) (nI w) (nI w)) (s := s) (t := y) hd.1 (by omega)
      have m10 := hm.1.2.2.2.2.2.2.2.2.2.1 y (by omega)
      show LR w pl u v ((M_Grid_put 23 (0 : Int32) (nI y) _).bind _) _
      rw [x1, Option.bind_some]
      show LR w pl u v _ (gc (gIn (nI y) (gLen 54)) (if v.2.2.1 54 (gIx (nI y)) = 0 then gc (gIn (nI y) (gLen 54)) (some (gsF (gsA (ms v 0 pl (nI b) (nI w) (nI w)) 54 (gIx (nI y)) 1) 42 21 ((ms v 0 pl (nI b) (nI w) (nI w)).1 42 21 + 1))) else some (ms v 0 pl (nI b) (nI w) (nI w))))
      have hg' : GA (s_stu s y) T G := ⟨Gd_stu hg.1 hy, hg.2.1, hg.2.2.1, hg.2.2.2⟩
      rw [gc_t (qi_in (n := gLen 54) (by omega) (show y < 200 by omega)), gc_t (qi_in (n := gLen 54) (by omega) (show y < 200 by omega)), qi_ix (by omega), m10]
      cases hst : s_st s y with
      | true =>
        rw [if_neg (show ¬ b2i true = 0 by decide)]
        rw [q_stu0 hst] at hg' x3
        exact lr_0 hg' (FG_A x2 hd x3) hm rfl rfl (FO_G x2) FM_0
      | false =>
        rw [if_pos (show b2i false = 0 from rfl)]
        exact lr_0 hg' (FG_A x2 hd x3) (q_stu (u := ms v 0 pl (nI b) (nI w) (nI w)) hm hg.1 hy hst) rfl rfl (FO_G x2) (FM_t (FM_A (by decide) (by decide)) (FM_F (by decide) (by decide)))
  · rw [if_neg k0, b58_f (nk k0 hk), e_3 (nk k0 hk)]
    exact lr_f hg hd hm (by omega) hk
theorem c_note {u : gSt} {s : GS} {g t : Nat} (hd : Dg u s) (hs : Gd s) (hg : g < s_n s) (ht : t < s_t s) : M_Board_canNote (nI g) (nI t) u = some (b2i (decide (s_c s < 2000) || s_nt s g t), u) := by
  have h1 := hs.1
  have h2 := hs.2.1
  have h3 := hs.2.2.2.2.2.2.2.2.2.2
  obtain ⟨d1, d2, d3, d4, d5, d6, d7, d8, d9, d10⟩ := hd
  unfold M_Board_canNote M_Board_canNote_b22 M_Board_canNote_b27
  rw [d4]
  by_cases c : s_c s < 2000
  · rw [if_pos (show nI (s_c s) < (2000 : Int32) from (qi_lt (b := 2000) (by omega) (by omega)).mpr c), decide_eq_true c]
    rfl
  · rw [if_neg (show ¬ nI (s_c s) < (2000 : Int32) by rw [show (2000 : Int32) = nI 2000 from rfl, qi_lt (by omega) (by omega)]; exact c), decide_eq_false c, Bool.false_or, p_has (a := 17) (r := 18) rfl rfl rfl (by omega) (by omega) (show 4 * t + g / 64 < 800 by omega), d7 t g (by omega) (by omega)]
    cases s_nt s g t <;> rfl
theorem c_link {u : gSt} {s : GS} {lo hi : Nat} (hd : Dg u s) (hs : Gd s) (h1 : lo < s_t s) (h2 : hi < s_t s) : M_Board_canLink (nI lo) (nI hi) u = some (b2i (decide (s_l s < 600) || s_lk s lo hi), u) := by
  have ht := hs.1
  have h3 := hs.2.2.2.2.2.2.2.2.2.1
  obtain ⟨d1, d2, d3, d4, d5, d6, d7, d8, d9, d10⟩ := hd
  unfold M_Board_canLink M_Board_canLink_b22 M_Board_canLink_b27
  rw [d3]
  by_cases c : s_l s < 600
  · rw [if_pos (show nI (s_l s) < (600 : Int32) from (qi_lt (b := 600) (by omega) (by omega)).mpr c), decide_eq_true c]
    rfl
  · rw [if_neg (show ¬ nI (s_l s) < (600 : Int32) by rw [show (600 : Int32) = nI 600 from rfl, qi_lt (by omega) (by omega)]; exact c), decide_eq_false c, Bool.false_or, p_has (a := 13) (r := 14) rfl rfl rfl (by omega) (by omega) (show 4 * lo + hi / 64 < 800 by omega), d5 lo hi (by omega) (by omega)]
    cases s_lk s lo hi <;> rfl
theorem ln_note {Tx : Nat → Int32} {u v : gSt} {s : GS} {T G : NS} {l e c w0 : Nat} {F B : Int64} {pl : Int32} (hT : tD u Tx l) (hM : tM v Tx l) (hd : DA u s T G) (hm : MA v s T G) (hg : GA s T G) (he : e ≤ l) (hc : w0 ≤ e) (does : Bool) : LR e pl u v (dop (if does then 6 else 7) (ds u F B (-1) (-1) (nI c) (nI e) (nI c) (nI w0))) (M_Model_note (nI c) (b2i does) (ms v 0 pl (nI c) (nI w0) (nI e))) := by
  have h4 := hT.1
  have ht := hg.1.1
  have hn := hg.1.2.1
  have hsc := hg.1.2.2.2.2.2.2.2.2.2.2
  obtain ⟨k, b, w, y, hk, hw, h0, hD, hN⟩ := kn6 hT hM hd hm hg he hc
  obtain ⟨p', q', e1, h1⟩ := hD F B (-1) (-1) (nI c) (nI c)
  obtain ⟨r, a', e2, h2⟩ := hN pl (nI c)
  have hdop : ∀ S, dop (if does then 6 else 7) S = (M_Clerk_readWord 6 S).bind fun q => if q.1 = (0 : Int32) then (M_Clerk_readWord 4 q.2).bind fun q54 => M_Clerk_doLine_b58 (if does then 6 else 7) q54.1 q54.2 else M_Clerk_doLine_b58 (if does then 6 else 7) q.1 q.2 := fun S => by
    cases does
    · exact dop_2 (by decide) rfl rfl (by decide)
    · exact dop_2 (by decide) rfl rfl (by decide)
  rw [hdop]
  unfold M_Model_note
  rw [e1, e2, Option.bind_some, Option.bind_some]
  by_cases k0 : k = 0
  · subst k0
    have hy := h0 rfl
    obtain ⟨rfl, rfl⟩ := h1 rfl
    obtain rfl := h2 rfl
    obtain ⟨k2, b2, w2, t, hk2, hw2, h02, hD2, hN2⟩ := kn4 hT hM hd hm hg he hw
    obtain ⟨p2, q2, f1, g1⟩ := hD2 F B (-1) (nI y) (nI c) (nI b)
    obtain ⟨r2, a2, f2, g2⟩ := hN2 pl (nI b)
    rw [if_pos (show (0 : Nat) = 0 from rfl)]
    show LR e pl u v ((M_Clerk_readWord 4 _).bind _) ((M_Model_youngTerm _).bind _)
    rw [f1, f2, Option.bind_some, Option.bind_some]
    by_cases k20 : k2 = 0
    · subst k20
      obtain ⟨ht2, hol⟩ := h02 rfl
      obtain ⟨rfl, rfl⟩ := g1 rfl
      obtain rfl := g2 rfl
      rw [if_pos (show (0 : Nat) = 0 from rfl)]
      have m7 := hm.1.2.2.2.2.2.2.1 y t (by omega) (by omega)
      have m4 := hm.1.2.2.2.1
      show LR e pl u v (M_Clerk_doLine_b58 _ 0 _) (if b2i does = 0 then M_Model_note_b47 (nI c) (nI y) (nI t) (ms v 0 pl (nI b2) (nI w2) (nI e)) else (gc (gIn ((200 : Int32) * nI y + nI t) (gLen 52)) <| if v.2.2.1 52 (gIx ((200 : Int32) * nI y + nI t)) = 0 then M_Model_note_b52 (nI c) (nI y) (nI t) 0 (ms v 0 pl (nI b2) (nI w2) (nI e)) else M_Model_note_b47 (nI c) (nI y) (nI t) (ms v 0 pl (nI b2) (nI w2) (nI e))))
      rw [p_200, gc_t (qi_in (n := gLen 52) (by omega) (show 200 * y + t < 40000 by omega)), qi_ix (by omega), m7]
      have mno : ∀ (w9 : Nat), w9 = e → M_Model_note_b47 (nI c) (nI y) (nI t) (ms v 0 pl (nI b2) (nI w9) (nI e)) = some (ms v 0 pl (nI b2) (nI w9) (nI e)) := fun w9 h9 => by
        subst h9
        unfold M_Model_note_b47 M_Model_note_b52 M_Model_note_b71 M_Model_note_b76 M_Model_note_b87
        rw [if_neg (by decide), e_2, Option.bind_some, if_neg (show ¬ (1 : Int32) = 0 by decide), if_neg (by decide)]
      have mex : w2 < e → ∀ s0 s1, (M_Model_note_b76 (nI y) (nI t) s0 s1 (nI c) (ms v 0 pl (nI b2) (nI w2) (nI e))) = some (ms v 1 (nI (w2 + 1)) (nI b2) (nI w2) (nI e)) := fun h9 s0 s1 => by
        unfold M_Model_note_b76 M_Model_note_b87
        rw [e_0 h9 (by omega)]
        rfl
      by_cases c1 : w2 < e
      · rw [b58_1 hT he c1]
        have hall : (if b2i does = 0 then M_Model_note_b47 (nI c) (nI y) (nI t) (ms v 0 pl (nI b2) (nI w2) (nI e)) else if b2i (s_nt s y t) = 0 then M_Model_note_b52 (nI c) (nI y) (nI t) 0 (ms v 0 pl (nI b2) (nI w2) (nI e)) else M_Model_note_b47 (nI c) (nI y) (nI t) (ms v 0 pl (nI b2) (nI w2) (nI e))) = some (ms v 1 (nI (w2 + 1)) (nI b2) (nI w2) (nI e)) := by
          unfold M_Model_note_b47 M_Model_note_b52 M_Model_note_b71
          repeat' split
          all_goals exact mex c1 _ _
        rw [hall]
        exact lr_f (k := 1) hg hd hm (by decide) (by decide)
      · obtain rfl : w2 = e := by omega
        rw [b58_0 hT he]
        cases does with
        | false =>
          rw [if_pos (show b2i false = 0 from rfl), mno w2 rfl]
          show LR w2 pl u v (M_Clerk_carryOut 7 _) _
          rw [kz_7]
          exact lr_0 hg hd hm rfl rfl FO_0 FM_0
        | true =>
          rw [if_neg (show ¬ b2i true = 0 by decide)]
          show LR w2 pl u v (M_Clerk_carryOut 6 _) _
          rw [kz_6]
          show LR w2 pl u v ((M_Board_canNote (nI y) (nI t) _).bind _) _
          rw [c_note (u := ds u F B (nI y) (nI t) (nI c) (nI w2) (nI w2) (nI w2)) (s := s) hd.1 hg.1 hy ht2, Option.bind_some]
          cases hnt : s_nt s y t with
          | true =>
            rw [Bool.or_true, if_neg (show ¬ b2i true = 0 by decide), if_neg (show ¬ b2i true = 0 by decide), mno w2 rfl]
            show LR w2 pl u v ((M_Board_note (nI y) (nI t) _).bind _) _
            rw [o_note0 (u := ds u F B (nI y) (nI t) (nI c) (nI w2) (nI w2) (nI w2)) (s := s) hd.1 hg.1 hy ht2 hnt, Option.bind_some]
            exact lr_0 hg hd hm rfl rfl FO_0 FM_0
          | false =>
            rw [Bool.or_false, if_pos (show b2i false = 0 from rfl)]
            unfold M_Model_note_b52 M_Model_note_b71 M_Model_note_b76 M_Model_note_b87
            rw [if_pos rfl, show (ms v 0 pl (nI b2) (nI w2) (nI w2)).1 42 19 = nI (s_c s) from m4]
            by_cases c2 : s_c s < 2000
            · rw [decide_eq_true c2, if_neg (show ¬ b2i true = 0 by decide), if_neg (show ¬ (2000 : Int32) ≤ nI (s_c s) by rw [show (2000 : Int32) = nI 2000 from rfl, qi_le (by omega) (by omega)]; omega), e_2, Option.bind_some, if_neg (show ¬ (1 : Int32) = 0 by decide), if_pos rfl, p_200, gc_t (qi_in (n := gLen 52) (by omega) (show 200 * y + t < 40000 by omega)), qi_ix (by omega)]
              obtain ⟨u', x1, x2, x3⟩ := o_note (u := ds u F B (nI y) (nI t) (nI c) (nI w2) (nI w2) (nI w2)) (s := s) hd.1 hg.1 hy ht2 hnt
              show LR w2 pl u v ((M_Board_note (nI y) (nI t) _).bind _) (some (gsF (gsF (gsA (ms v 0 pl (nI b2) (nI w2) (nI w2)) 52 (200 * y + t) 1) 42 19 ((ms v 0 pl (nI b2) (nI w2) (nI w2)).1 42 19 + 1)) 42 17 0))
              rw [x1, Option.bind_some]
              have hg' : GA (s_not s y t) T G := ⟨Gd_not hg.1 hy ht2 c2, hg.2.1, hg.2.2.1, hg.2.2.2⟩
              exact lr_0 hg' (FG_A x2 hd x3) (q_not (u := ms v 0 pl (nI b2) (nI w2) (nI w2)) hm hg.1 hy ht2) rfl rfl (FO_G x2) (FM_t (FM_t (FM_A (by decide) (by decide)) (FM_F (by decide) (by decide))) (FM_F (by decide) (by decide)))
            · rw [decide_eq_false c2, if_pos (show b2i false = 0 from rfl), if_pos (show (2000 : Int32) ≤ nI (s_c s) from (qi_le (a := 2000) (by omega) (by omega)).mpr (by omega)), e_1, Option.bind_some, if_pos rfl]
              exact lr_7 hg hd hm
    · have hf : ¬ (ms v (nI k2) (nI b2) a2 (nI w2) (nI e)).1 42 2 = 0 := nk k20 hk2
      rw [if_neg k20, b58_f (nk k20 hk2), if_neg hf]
      exact lr_f hg hd hm (by omega) hk2
  · have hf : ¬ (ms v (nI k) (nI b) a' (nI w) (nI e)).1 42 2 = 0 := nk k0 hk
    rw [if_neg k0, if_neg (nk k0 hk), b58_f (nk k0 hk), if_neg hf]
    exact lr_f hg hd hm (by omega) hk
theorem ln_lnk {Tx : Nat → Int32} {u v : gSt} {s : GS} {T G : NS} {l e c w0 i : Nat} {F B : Int64} {pl : Int32} (hi : i = 2 ∨ i = 3) (hT : tD u Tx l) (hM : tM v Tx l) (hd : DA u s T G) (hm : MA v s T G) (hg : GA s T G) (he : e ≤ l) (hc : w0 ≤ e) : LR e pl u v (dop i (ds u F B (-1) (-1) (nI c) (nI e) (nI c) (nI w0))) (M_Model_link (nI c) (ms v 0 pl (nI c) (nI w0) (nI e))) := by
  have h4 := hT.1
  have ht := hg.1.1
  have hsl := hg.1.2.2.2.2.2.2.2.2.2.1
  obtain ⟨k, b, w, x, hk, hw, h0, hD, hN⟩ := kn4 hT hM hd hm hg he hc
  obtain ⟨p', q', e1, h1⟩ := hD F B (-1) (-1) (nI c) (nI c)
  obtain ⟨r, a', e2, h2⟩ := hN pl (nI c)
  have hdop : ∀ S, dop i S = (M_Clerk_readWord 4 S).bind fun q => if q.1 = (0 : Int32) then (M_Clerk_readWord 5 q.2).bind fun q54 => M_Clerk_doLine_b58 i q54.1 q54.2 else M_Clerk_doLine_b58 i q.1 q.2 := fun S => by
    rcases hi with rfl | rfl
    · exact dop_2 (by decide) rfl rfl (by decide)
    · exact dop_2 (by decide) rfl rfl (by decide)
  rw [hdop]
  unfold M_Model_link
  rw [e1, e2, Option.bind_some, Option.bind_some]
  by_cases k0 : k = 0
  · subst k0
    obtain ⟨hx, hox⟩ := h0 rfl
    obtain ⟨rfl, rfl⟩ := h1 rfl
    obtain rfl := h2 rfl
    obtain ⟨k2, b2, w2, y, hk2, hw2, h02, -, hD5, hD5f, hN2⟩ := kn3 hT hM hd hm hg he hw
    obtain ⟨r2, a2, f2, g2⟩ := hN2 pl (nI b)
    rw [if_pos (show (0 : Nat) = 0 from rfl)]
    show LR e pl u v ((M_Clerk_readWord 5 _).bind _) ((M_Model_termNext _).bind _)
    rw [f2, Option.bind_some]
    by_cases k20 : k2 = 0
    · subst k20
      have hy := h02 rfl
      obtain rfl := g2 rfl
      rw [if_pos (show (0 : Nat) = 0 from rfl), hD5 F B (-1) (nI c) (nI b) rfl x hx, Option.bind_some]
      have m6 := hm.1.2.2.2.2.2.1 y x (by omega) (by omega)
      have m9 := hm.1.2.2.2.2.2.2.2.2.1 y hy
      have m5 := hm.1.2.2.2.2.1 x y (by omega) (by omega)
      have m3 := hm.1.2.2.1
      have mf : ∀ (k9 : Int32), ¬ k9 = 0 → M_Model_link_b77 (nI c) (nI x) (nI y) (ms v k9 (nI b2) (nI b2) (nI w2) (nI e)) = some (ms v k9 (nI b2) (nI b2) (nI w2) (nI e)) := fun k9 h9 => by
        unfold M_Model_link_b77 M_Model_link_b108 M_Model_link_b113 M_Model_link_b124
        have E0 := e_3 (v := v) (pl := nI b2) (a := nI b2) (w := nI w2) (e := nI e) (x1 := nI c) (s0 := 0) h9
        have E1 := e_3 (v := v) (pl := nI b2) (a := nI b2) (w := nI w2) (e := nI e) (x1 := nI c) (s0 := 1) h9
        rw [p_200, gc_t (qi_in (n := gLen 50) (by omega) (show 200 * x + y < 40000 by omega)), E0, E1]
        split
        · split
          · rfl
          · rfl
        · rfl
      have m56 : ∀ (k9 : Int32), ¬ k9 = 0 → M_Model_link_b56 (nI c) (nI x) (nI y) (ms v k9 (nI b2) (nI b2) (nI w2) (nI e)) = some (ms v k9 (nI b2) (nI b2) (nI w2) (nI e)) := fun k9 h9 => by
        unfold M_Model_link_b56
        rw [gc_t (qi_in (n := gLen 49) (by omega) (show y < 200 by omega)), p_stop1 h9, Option.bind_some, mf k9 h9]
        split <;> rfl
      have m46 : M_Model_link_b46 (nI c) (nI x) (nI y) (ms v 0 pl (nI b2) (nI w2) (nI e)) = some (ms v 5 (nI b2) (nI b2) (nI w2) (nI e)) := by
        unfold M_Model_link_b46
        show ((M_Model_stop 5 (nI b2) (ms v 0 pl (nI b2) (nI w2) (nI e))).bind _) = _
        rw [p_stop, Option.bind_some, m56 5 (by decide)]
      show LR e pl u v _ (if nI x = nI y then M_Model_link_b46 (nI c) (nI x) (nI y) (ms v 0 pl (nI b2) (nI w2) (nI e)) else (gc (gIn ((200 : Int32) * nI y + nI x) (gLen 51)) <| if v.2.2.1 51 (gIx ((200 : Int32) * nI y + nI x)) = 0 then M_Model_link_b56 (nI c) (nI x) (nI y) (ms v 0 pl (nI b2) (nI w2) (nI e)) else M_Model_link_b46 (nI c) (nI x) (nI y) (ms v 0 pl (nI b2) (nI w2) (nI e))))
      rw [p_200, gc_t (qi_in (n := gLen 51) (by omega) (show 200 * y + x < 40000 by omega)), qi_ix (by omega), m6]
      by_cases cx : x = y
      · rw [decide_eq_true cx, Bool.true_or, if_pos rfl, b58_f (show ¬ (5 : Int32) = 0 by decide), if_pos (by rw [cx]), m46]
        exact lr_f (k := 5) hg hd hm (by decide) (by decide)
      · rw [decide_eq_false cx, Bool.false_or, if_neg (show ¬ nI x = nI y by rw [qi_eq (by omega) (by omega)]; exact cx)]
        cases hab : s_ab s y x with
        | true =>
          rw [if_pos rfl, b58_f (show ¬ (5 : Int32) = 0 by decide), if_neg (show ¬ b2i true = 0 by decide), m46]
          exact lr_f (k := 5) hg hd hm (by decide) (by decide)
        | false =>
          rw [if_neg (show ¬ false = true by decide), if_pos (show b2i false = 0 from rfl)]
          unfold M_Model_link_b56
          rw [gc_t (qi_in (n := gLen 49) (by omega) (show y < 200 by omega)), qi_ix (by omega), show (ms v 0 pl (nI b2) (nI w2) (nI e)).2.2.1 49 y = b2i (s_ol s y) from m9]
          cases hoy : s_ol s y with
          | true =>
            rw [if_pos rfl, b58_f (show ¬ (6 : Int32) = 0 by decide), if_pos (show b2i true = 1 from rfl)]
            show LR e pl u v _ ((M_Model_stop 6 (nI b2) (ms v 0 pl (nI b2) (nI w2) (nI e))).bind _)
            rw [p_stop, Option.bind_some, mf 6 (by decide)]
            exact lr_f (k := 6) hg hd hm (by decide) (by decide)
          | false =>
            rw [if_neg (show ¬ false = true by decide), if_neg (show ¬ b2i false = 1 by decide)]
            unfold M_Model_link_b77 M_Model_link_b108 M_Model_link_b113 M_Model_link_b124
            rw [p_200, gc_t (qi_in (n := gLen 50) (by omega) (show 200 * x + y < 40000 by omega)), qi_ix (by omega), show (ms v 0 pl (nI b2) (nI w2) (nI e)).2.2.1 50 (200 * x + y) = b2i (s_lk s x y) from m5, show (ms v 0 pl (nI b2) (nI w2) (nI e)).1 42 18 = nI (s_l s) from m3]
            by_cases c1 : w2 < e
            · have E0 := e_0 (v := v) (pl := pl) (a := nI b2) (x1 := nI c) (s0 := 0) c1 (by omega)
              have E1 := e_0 (v := v) (pl := pl) (a := nI b2) (x1 := nI c) (s0 := 1) c1 (by omega)
              have fin := lr_f (e := e) (k := 1) (b := w2 + 1) (pl0 := pl) (F := F) (B := B) (p := nI x) (q := nI y) (f := nI c) (w := nI (wd Tx 32 (e - (w2 + 1)) (w2 + 1))) (a := nI b2) (w' := nI w2) (e' := nI e) hg hd hm (by decide) (by decide)
              rw [b58_1 hT he c1, E0, E1]
              split
              · split
                · exact fin
                · exact fin
              · exact fin
            · obtain rfl : w2 = e := by omega
              rw [b58_0 hT he, kz_2 hi]
              show LR w2 pl u v ((M_Board_canLink (nI x) (nI y) _).bind _) _
              rw [c_link (u := ds u F B (nI x) (nI y) (nI c) (nI w2) (nI w2) (nI w2)) (s := s) hd.1 hg.1 hx hy, Option.bind_some]
              cases hlk : s_lk s x y with
              | true =>
                rw [Bool.or_true, if_neg (show ¬ b2i true = 0 by decide), if_neg (show ¬ b2i true = 0 by decide), e_2, Option.bind_some, if_neg (show ¬ (1 : Int32) = 0 by decide), if_neg (show ¬ b2i true = 0 by decide)]
                show LR w2 pl u v ((M_Board_link (nI x) (nI y) _).bind _) _
                rw [o_link0 (u := ds u F B (nI x) (nI y) (nI c) (nI w2) (nI w2) (nI w2)) (s := s) hd.1 hg.1 hx hy hlk, Option.bind_some]
                exact lr_0 hg hd hm rfl rfl FO_0 FM_0
              | false =>
                rw [Bool.or_false, if_pos (show b2i false = 0 from rfl)]
                by_cases c2 : s_l s < 600
                · rw [decide_eq_true c2, if_neg (show ¬ b2i true = 0 by decide), if_neg (show ¬ (600 : Int32) ≤ nI (s_l s) by rw [show (600 : Int32) = nI 600 from rfl, qi_le (by omega) (by omega)]; omega), e_2, Option.bind_some, if_neg (show ¬ (1 : Int32) = 0 by decide), if_pos (show b2i false = 0 from rfl)]
                  obtain ⟨u', x1, x2, x3⟩ := o_link (u := ds u F B (nI x) (nI y) (nI c) (nI w2) (nI w2) (nI w2)) (s := s) hd.1 hg.1 hx hy cx hab hlk
                  obtain ⟨v', y1, y2, y3, y4⟩ := q_lnk (u := ms v 0 pl (nI b2) (nI w2) (nI w2)) (s := s) (T := T) (G := G) hm hg.1 hx hy cx hab
                  show LR w2 pl u v ((M_Board_link (nI x) (nI y) _).bind _) _
                  rw [x1, Option.bind_some]
                  rw [y1]
                  exact lr_0 ⟨Gd_lnk hg.1 hx hy cx hab c2, hg.2.1, hg.2.2.1, hg.2.2.2⟩ (FG_A x2 hd x3) y4 y3.1 y3.2 (FO_G x2) y2
                · rw [decide_eq_false c2, if_pos (show b2i false = 0 from rfl), if_pos (show (600 : Int32) ≤ nI (s_l s) from (qi_le (a := 600) (by omega) (by omega)).mpr (by omega)), e_1, Option.bind_some, if_pos rfl]
                  exact lr_7 hg hd hm
    · obtain ⟨p5, q5, f5⟩ := hD5f F B (-1) (nI x) (nI c) (nI b) k20
      have hf : ¬ (ms v (nI k2) (nI b2) a2 (nI w2) (nI e)).1 42 2 = 0 := nk k20 hk2
      rw [if_neg k20, f5, Option.bind_some, b58_f (nk k20 hk2), if_neg hf]
      exact lr_f hg hd hm (by omega) hk2
  · have hf : ¬ (ms v (nI k) (nI b) a' (nI w) (nI e)).1 42 2 = 0 := nk k0 hk
    rw [if_neg k0, if_neg (nk k0 hk), b58_f (nk k0 hk), if_neg hf]
    exact lr_f hg hd hm (by omega) hk
