/-! A line, on both sides at once. -/
def FD (u v : gSt) : Prop := (∀ a j, a ≠ 1 → a ≠ 2 → a ≠ 4 → a ≠ 5 → a ≠ 9 → v.1 a j = u.1 a j) ∧ (∀ j, j < 4 → v.1 1 j = u.1 1 j) ∧ v.1 2 1 = u.1 2 1 ∧ (∀ a, a ≠ 8 → a ≠ 12 → v.2.2.1 a = u.2.2.1 a) ∧ ∀ a, (a < 6 ∨ 27 ≤ a) → v.2.2.2 a = u.2.2.2 a
theorem FD_ds {u : gSt} {F B : Int64} {p q f e b w : Int32} : FD u (ds u F B p q f e b w) := by
  refine ⟨fun a j h1 h2 _ _ _ => ?_, fun j hj => ?_, rfl, fun _ _ _ => rfl, fun _ _ => rfl⟩
  · show (if a = 2 then _ else if a = 1 then _ else u.1 a j) = _
    rw [if_neg h2, if_neg h1]
  · show (if j = 6 then p else if j = 7 then q else u.1 1 j) = _
    rw [if_neg (by omega), if_neg (by omega)]
theorem FD_o {u v w : gSt} (h : FD u v) (k : FO v w) : FD u w := by
  obtain ⟨h1, h2, h3, h4, h5⟩ := h
  obtain ⟨k1, k2, k3⟩ := k
  refine ⟨fun a j a1 a2 a4 a5 a9 => ?_, fun j hj => ?_, ?_, fun a a8 a12 => ?_, fun a ha => ?_⟩
  · rw [k1 a j a4 a5 a9, h1 a j a1 a2 a4 a5 a9]
  · rw [k1 1 j (by decide) (by decide) (by decide), h2 j hj]
  · rw [k1 2 1 (by decide) (by decide) (by decide), h3]
  · rw [k2 a a8 a12, h4 a a8 a12]
  · rw [k3 a ha, h5 a ha]
/-- the line's end: one fault number, one place, one state behind -/
def LR (e : Nat) (pl0 : Int32) (u v : gSt) (D : Option (Int32 × gSt)) (M : Option gSt) : Prop := ∃ (k : Nat) (pl : Int32) (s : GS) (T G : NS) (u' v' : gSt), D = some (nI k, u') ∧ M = some v' ∧ k < 8 ∧ GA s T G ∧ DA u' s T G ∧ MA v' s T G ∧ v'.1 42 2 = nI k ∧ (k = 0 → v'.1 42 3 = pl0) ∧ (k ≠ 0 → v'.1 42 3 = pl ∧ (if k = 7 then u'.1 2 2 else u'.1 2 4) = pl) ∧ FD u u' ∧ FM v v' ∧ u'.1 2 3 = nI e
theorem lr_f {e k b : Nat} {pl0 : Int32} {u v : gSt} {s : GS} {T G : NS} {F B : Int64} {p q f w a w' e' : Int32} (hg : GA s T G) (hd : DA u s T G) (hm : MA v s T G) (hk : 1 ≤ k) (hk2 : k ≤ 6) : LR e pl0 u v (some (nI k, ds u F B p q f (nI e) (nI b) w)) (some (ms v (nI k) (nI b) a w' e')) := ⟨k, nI b, s, T, G, _, _, rfl, rfl, by omega, hg, hd, hm, rfl, fun h => by omega, fun _ => ⟨rfl, by rw [if_neg (by omega)]; rfl⟩, FD_ds, FM_ms, rfl⟩
theorem lr_7 {e : Nat} {pl0 : Int32} {u v : gSt} {s : GS} {T G : NS} {F B : Int64} {p q f b w a w' e' : Int32} (hg : GA s T G) (hd : DA u s T G) (hm : MA v s T G) : LR e pl0 u v (some (7, ds u F B p q f (nI e) b w)) (some (ms v 7 f a w' e')) := ⟨7, f, s, T, G, _, _, rfl, rfl, by omega, hg, hd, hm, rfl, fun h => by omega, fun _ => ⟨rfl, rfl⟩, FD_ds, FM_ms, rfl⟩
theorem lr_0 {e : Nat} {pl0 : Int32} {u v u' v' : gSt} {s : GS} {T G : NS} {F B : Int64} {p q f b w a w' e' : Int32} (hg : GA s T G) (hd : DA u' s T G) (hm : MA v' s T G) (hk : v'.1 42 2 = 0) (hp : v'.1 42 3 = pl0) (ho : FO (ds u F B p q f (nI e) b w) u') (hf : FM (ms v 0 pl0 a w' e') v') : LR e pl0 u v (some (0, u')) (some v') := ⟨0, 0, s, T, G, u', v', rfl, rfl, by omega, hg, hd, hm, hk, fun _ => hp, fun h => absurd rfl h, FD_o FD_ds ho, FM_t FM_ms hf, by rw [ho.1 2 3 (by decide) (by decide) (by decide)]; rfl⟩
/-- what the class does with a line of kind i -/
noncomputable def dop (i : Nat) (S : gSt) : Option (Int32 × gSt) := gc (decide (i < 9)) <| (M_Clerk_readWord (gSec.getD i 0) S).bind fun q34 => if q34.1 = (0 : Int32) then (gc (decide (i < 9)) <| if (gThi.getD i 0) = (0 : Int32) then (M_Clerk_doLine_b58 i q34.1 q34.2) else (gc (decide (i < 9)) <| (M_Clerk_readWord (gThi.getD i 0) q34.2).bind fun q54 => M_Clerk_doLine_b58 i q54.1 q54.2)) else (M_Clerk_doLine_b58 i q34.1 q34.2)
theorem dop_1 {i : Nat} {S : gSt} {x : Int32} (hi : i < 9) (hx : gSec.getD i 0 = x) (h0 : gThi.getD i 0 = 0) : dop i S = (M_Clerk_readWord x S).bind fun q => M_Clerk_doLine_b58 i q.1 q.2 := by
  unfold dop
  rw [gc_t (decide_eq_true hi), hx, h0]
  cases M_Clerk_readWord x S with
  | none => rfl
  | some q =>
    rw [Option.bind_some, Option.bind_some, gc_t (decide_eq_true hi), if_pos rfl]
    split <;> rfl
theorem dop_2 {i : Nat} {S : gSt} {x y : Int32} (hi : i < 9) (hx : gSec.getD i 0 = x) (hy : gThi.getD i 0 = y) (h0 : ¬ y = 0) : dop i S = (M_Clerk_readWord x S).bind fun q => if q.1 = (0 : Int32) then (M_Clerk_readWord y q.2).bind fun q54 => M_Clerk_doLine_b58 i q54.1 q54.2 else M_Clerk_doLine_b58 i q.1 q.2 := by
  unfold dop
  rw [gc_t (decide_eq_true hi), hx, hy]
  cases M_Clerk_readWord x S with
  | none => rfl
  | some q => rw [Option.bind_some, Option.bind_some, gc_t (decide_eq_true hi), if_neg h0, gc_t (decide_eq_true hi)]
theorem b58_f {i : Nat} {k : Int32} {S : gSt} (hk : ¬ k = 0) : M_Clerk_doLine_b58 i k S = some (k, S) := by
  unfold M_Clerk_doLine_b58 M_Clerk_doLine_b74 M_Clerk_doLine_b87
  rw [if_neg hk, if_neg hk]
theorem b58_1 {T : Nat → Int32} {u : gSt} {i l e w : Nat} {F B : Int64} {p q f y : Int32} (hT : tD u T l) (he : e ≤ l) (hw : w < e) : M_Clerk_doLine_b58 i 0 (ds u F B p q f (nI e) y (nI w)) = some (nI 1, ds u F B p q f (nI e) (nI (w + 1)) (nI (wd T 32 (e - (w + 1)) (w + 1)))) := by
  unfold M_Clerk_doLine_b58 M_Clerk_doLine_b74 M_Clerk_doLine_b87
  rw [if_pos rfl, p_openWord hT he hw]
  rfl
theorem b58_0 {T : Nat → Int32} {u : gSt} {i l e : Nat} {F B : Int64} {p q f y : Int32} (hT : tD u T l) (he : e ≤ l) : M_Clerk_doLine_b58 i 0 (ds u F B p q f (nI e) y (nI e)) = M_Clerk_carryOut i (ds u F B p q f (nI e) (nI e) (nI e)) := by
  have h4 := hT.1
  unfold M_Clerk_doLine_b58 M_Clerk_doLine_b74 M_Clerk_doLine_b87
  rw [if_pos rfl, p_openWord0 hT he (Nat.le_refl _) (by omega), Option.bind_some, if_pos rfl, if_pos rfl]
  cases M_Clerk_carryOut i (ds u F B p q f (nI e) (nI e) (nI e)) <;> rfl
theorem p_doLine {T : Nat → Int32} {u : gSt} {l e c : Nat} {F B : Int64} {p q y : Int32} (hT : tD u T l) (he : e ≤ l) (hc : c < e) : M_Clerk_doLine (ds u F B p q (nI c) (nI e) y (nI c - (1 : Int32))) = match kf (kb T c (wd T 32 (e - c) c)) 9 0 with | none => some (1, ds u F B p q (nI c) (nI e) (nI c) (nI (wd T 32 (e - c) c))) | some i => dop i (ds u F B (-1) (-1) (nI c) (nI e) (nI c) (nI (wd T 32 (e - c) c))) := by
  have h4 := hT.1
  have hw := wd_ge (T := T) (c := 32) (e - c) c
  unfold M_Clerk_doLine
  rw [p_openWord1 hT he hc, Option.bind_some]
  generalize wd T 32 (e - c) c = w at hw ⊢
  have hTS : tD (ds u F B p q (nI c) (nI e) (nI c) (nI w)) T l := hT
  show ((M_Clerk_kindOfWord (ds u F B p q (nI c) (nI e) (nI c) (nI w))).bind _) = _
  rw [p_kind hTS rfl rfl hw.1 (by omega), Option.bind_some]
  cases kf (kb T c w) 9 0 with
  | none => rfl
  | some i =>
    show (gc (decide (i < 9)) <| (M_Clerk_readWord (gSec.getD i 0) (gsF (gsF (ds u F B p q (nI c) (nI e) (nI c) (nI w)) 1 6 (-1)) 1 7 (-1))).bind _) = _
    rw [ds_p, ds_q]
    rfl
/-! known words -/
theorem tn_nx (S : gSt) : M_Model_termNext S = nx S M_Model_termNext_b14 (fun u => (M_Model_termOf u).bind fun q17 => if q17.1 = (-1 : Int32) then ((M_Model_stop (3 : Int32) (q17.2.1 42 22) q17.2).bind fun q32 => M_Model_termNext_b36 q17.1 q32.2) else (M_Model_termNext_b36 q17.1 q17.2)) := rfl
theorem gn_nx (S : gSt) : M_Model_geneNext S = nx S M_Model_geneNext_b14 (fun u => (M_Model_geneOf u).bind fun q17 => if q17.1 = (-1 : Int32) then ((M_Model_stop (3 : Int32) (q17.2.1 42 22) q17.2).bind fun q32 => M_Model_geneNext_b36 q17.1 q32.2) else (M_Model_geneNext_b36 q17.1 q17.2)) := rfl
theorem kn3 {Tx : Nat → Int32} {u v : gSt} {s : GS} {T G : NS} {l e cp : Nat} (hT : tD u Tx l) (hM : tM v Tx l) (hd : DA u s T G) (hm : MA v s T G) (hg : GA s T G) (he : e ≤ l) (hc : cp ≤ e) : ∃ k b w y, k ≤ 6 ∧ w ≤ e ∧ (k = 0 → y < s_t s) ∧ (∀ (F B : Int64) (p q fr y0 : Int32), ∃ p' q', M_Clerk_readWord 3 (ds u F B p q fr (nI e) y0 (nI cp)) = some (nI k, ds u F B p' q' fr (nI e) (nI b) (nI w)) ∧ (k = 0 → p' = q ∧ q' = nI y)) ∧ (∀ (F B : Int64) (q fr y0 : Int32), k = 0 → ∀ x, x < s_t s → M_Clerk_readWord 5 (ds u F B q (nI x) fr (nI e) y0 (nI cp)) = some (if (decide (x = y) || s_ab s y x) = true then 5 else if s_ol s y = true then 6 else 0, ds u F B (nI x) (nI y) fr (nI e) (nI b) (nI w))) ∧ (∀ (F B : Int64) (p q fr y0 : Int32), k ≠ 0 → ∃ p' q', M_Clerk_readWord 5 (ds u F B p q fr (nI e) y0 (nI cp)) = some (nI k, ds u F B p' q' fr (nI e) (nI b) (nI w))) ∧ ∀ (pl a : Int32), ∃ r a', M_Model_termNext (ms v 0 pl a (nI cp) (nI e)) = some (r, if k = 0 then ms v 0 pl (nI b) (nI w) (nI e) else ms v (nI k) (nI b) a' (nI w) (nI e)) ∧ (k = 0 → r = nI y) := by
  have ht := hg.1.1
  obtain ⟨f, b, w, hf, hb, hw, h0, hD, hN⟩ := rd hT hM he hc
  have hN' := fun (pl a : Int32) => hN (Int32 × gSt) M_Model_termNext_b14 (fun u => (M_Model_termOf u).bind fun q17 => if q17.1 = (-1 : Int32) then ((M_Model_stop (3 : Int32) (q17.2.1 42 22) q17.2).bind fun q32 => M_Model_termNext_b36 q17.1 q32.2) else (M_Model_termNext_b36 q17.1 q17.2)) pl a
  by_cases f0 : f = 0
  · subst f0
    obtain ⟨hbw, hn⟩ := h0 rfl
    obtain ⟨r, hr⟩ := fo_ex T Tx b w
    have ow := fun (F B : Int64) (p q fr y0 : Int32) => own5 (u := ds u F B p q fr (nI e) y0 (nI w)) (show DA (ds u F B p q fr (nI e) y0 (nI w)) s T G from hd) hg hn hbw hr
    have hk3 := fun (F B : Int64) (p q fr y0 : Int32) => (hD 3 F B p q fr y0).2 rfl
    have hk5 := fun (F B : Int64) (p q fr y0 : Int32) => (hD 5 F B p q fr y0).2 rfl
    have tv := fun (pl : Int32) => v_term (v := v) (pl := pl) (e := nI e) hm hg hM (by omega) hbw hr
    rcases fo_m1 hg.2.1 ht hr with rfl | ⟨y, hy, rfl, hy1⟩
    · refine ⟨3, b, w, 0, by decide, hw, fun h => (by cases h), fun F B p q fr y0 => ⟨q, -1, ?_, fun h => (by cases h)⟩, fun F B q fr y0 h => (by cases h), fun F B p q fr y0 _ => ⟨q, -1, ?_⟩, fun pl a => ⟨-1, nI b, ?_, fun h => (by cases h)⟩⟩
      · rw [hk3]
        show M_Clerk_readWord_b94 3 _ _ 5 _ = _
        rw [w_known rfl (by decide) (by decide) (ow F B p q fr (nI b)), if_pos rfl]
        rfl
      · rw [hk5]
        show M_Clerk_readWord_b94 5 _ _ 5 _ = _
        rw [w_known rfl (by decide) (by decide) (ow F B p q fr (nI b)), if_pos rfl]
        rfl
      · obtain ⟨a', e9⟩ := hN' pl a
        rw [tn_nx, e9, if_pos rfl]
        show ((M_Model_termOf (ms v 0 pl (nI b) (nI w) (nI e))).bind _) = _
        rw [tv, Option.bind_some, if_pos rfl]
        show ((M_Model_stop 3 (nI b) (ms v 0 pl (nI b) (nI w) (nI e))).bind _) = _
        rw [p_stop]
        rfl
    · refine ⟨0, b, w, y, by decide, hw, fun _ => hy, fun F B p q fr y0 => ⟨q, nI y, ?_, fun _ => ⟨rfl, rfl⟩⟩, fun F B q fr y0 _ x hx => ?_, fun F B p q fr y0 h => absurd rfl h, fun pl a => ⟨nI y, 0, ?_, fun _ => rfl⟩⟩
      · rw [hk3]
        show M_Clerk_readWord_b94 3 _ _ 5 _ = _
        rw [w_known rfl (by decide) (by decide) (ow F B p q fr (nI b)), if_neg hy1, k_36 (Or.inl rfl)]
        rfl
      · rw [hk5]
        show M_Clerk_readWord_b94 5 _ _ 5 _ = _
        rw [w_known rfl (by decide) (by decide) (ow F B q (nI x) fr (nI b)), if_neg hy1, k_5 hd.1 hg.1 hx hy]
      · obtain ⟨a', e9⟩ := hN' pl a
        rw [tn_nx, e9, if_pos rfl]
        show ((M_Model_termOf (ms v 0 pl (nI b) (nI w) (nI e))).bind _) = _
        rw [tv, Option.bind_some, if_neg hy1]
        rfl
  · refine ⟨f, b, w, 0, by omega, hw, fun h => absurd h f0, fun F B p q fr y0 => ⟨p, q, (hD 3 F B p q fr y0).1 f0, fun h => absurd h f0⟩, fun F B q fr y0 h => absurd h f0, fun F B p q fr y0 _ => ⟨p, q, (hD 5 F B p q fr y0).1 f0⟩, fun pl a => ?_⟩
    obtain ⟨a', e9⟩ := hN' pl a
    refine ⟨-1, a', ?_, fun h => absurd h f0⟩
    rw [tn_nx, e9, if_neg f0, if_neg f0]
    rfl
theorem kn4 {Tx : Nat → Int32} {u v : gSt} {s : GS} {T G : NS} {l e cp : Nat} (hT : tD u Tx l) (hM : tM v Tx l) (hd : DA u s T G) (hm : MA v s T G) (hg : GA s T G) (he : e ≤ l) (hc : cp ≤ e) : ∃ k b w y, k ≤ 6 ∧ w ≤ e ∧ (k = 0 → y < s_t s ∧ s_ol s y = false) ∧ (∀ (F B : Int64) (p q fr y0 : Int32), ∃ p' q', M_Clerk_readWord 4 (ds u F B p q fr (nI e) y0 (nI cp)) = some (nI k, ds u F B p' q' fr (nI e) (nI b) (nI w)) ∧ (k = 0 → p' = q ∧ q' = nI y)) ∧ ∀ (pl a : Int32), ∃ r a', M_Model_youngTerm (ms v 0 pl a (nI cp) (nI e)) = some (r, if k = 0 then ms v 0 pl (nI b) (nI w) (nI e) else ms v (nI k) (nI b) a' (nI w) (nI e)) ∧ (k = 0 → r = nI y) := by
  have ht := hg.1.1
  obtain ⟨f, b, w, hf, hb, hw, h0, hD, hN⟩ := rd hT hM he hc
  have hN' := fun (pl a : Int32) => hN (Int32 × gSt) M_Model_termNext_b14 (fun u => (M_Model_termOf u).bind fun q17 => if q17.1 = (-1 : Int32) then ((M_Model_stop (3 : Int32) (q17.2.1 42 22) q17.2).bind fun q32 => M_Model_termNext_b36 q17.1 q32.2) else (M_Model_termNext_b36 q17.1 q17.2)) pl a
  have yt : ∀ (S S' : gSt) (r : Int32), M_Model_termNext S = some (r, S') → r = -1 → M_Model_youngTerm S = some (r, S') := fun S S' r h1 h2 => by
    unfold M_Model_youngTerm M_Model_youngTerm_b31
    rw [h1, Option.bind_some, if_pos h2]
  by_cases f0 : f = 0
  · subst f0
    obtain ⟨hbw, hn⟩ := h0 rfl
    obtain ⟨r, hr⟩ := fo_ex T Tx b w
    have ow := fun (F B : Int64) (p q fr y0 : Int32) => own5 (u := ds u F B p q fr (nI e) y0 (nI w)) (show DA (ds u F B p q fr (nI e) y0 (nI w)) s T G from hd) hg hn hbw hr
    have hk4 := fun (F B : Int64) (p q fr y0 : Int32) => (hD 4 F B p q fr y0).2 rfl
    have tv := fun (pl : Int32) => v_term (v := v) (pl := pl) (e := nI e) hm hg hM (by omega) hbw hr
    rcases fo_m1 hg.2.1 ht hr with rfl | ⟨y, hy, rfl, hy1⟩
    · refine ⟨3, b, w, 0, by decide, hw, fun h => (by cases h), fun F B p q fr y0 => ⟨q, -1, ?_, fun h => (by cases h)⟩, fun pl a => ⟨-1, nI b, ?_, fun h => (by cases h)⟩⟩
      · rw [hk4]
        show M_Clerk_readWord_b94 4 _ _ 5 _ = _
        rw [w_known rfl (by decide) (by decide) (ow F B p q fr (nI b)), if_pos rfl]
        rfl
      · obtain ⟨a', e9⟩ := hN' pl a
        refine yt _ _ _ ?_ rfl
        rw [tn_nx, e9, if_pos rfl]
        show ((M_Model_termOf (ms v 0 pl (nI b) (nI w) (nI e))).bind _) = _
        rw [tv, Option.bind_some, if_pos rfl]
        show ((M_Model_stop 3 (nI b) (ms v 0 pl (nI b) (nI w) (nI e))).bind _) = _
        rw [p_stop]
        rfl
    · have tn : ∀ (pl a : Int32), M_Model_termNext (ms v 0 pl a (nI cp) (nI e)) = some (nI y, ms v 0 pl (nI b) (nI w) (nI e)) := fun pl a => by
        obtain ⟨a', e9⟩ := hN' pl a
        rw [tn_nx, e9, if_pos rfl]
        show ((M_Model_termOf (ms v 0 pl (nI b) (nI w) (nI e))).bind _) = _
        rw [tv, Option.bind_some, if_neg hy1]
        rfl
      have m9 := hm.1.2.2.2.2.2.2.2.2.1 y hy
      have yn : ∀ (pl a : Int32), M_Model_youngTerm (ms v 0 pl a (nI cp) (nI e)) = if b2i (s_ol s y) = 1 then some (nI y, ms v 6 (nI b) (nI b) (nI w) (nI e)) else some (nI y, ms v 0 pl (nI b) (nI w) (nI e)) := fun pl a => by
        unfold M_Model_youngTerm M_Model_youngTerm_b31
        rw [tn, Option.bind_some, if_neg hy1, gc_t (qi_in (n := gLen 49) (by omega) (show y < 200 by omega)), qi_ix (by omega), show (ms v 0 pl (nI b) (nI w) (nI e)).2.2.1 49 y = b2i (s_ol s y) from m9]
        by_cases c : b2i (s_ol s y) = 1
        · rw [if_pos c, if_pos c]
          show ((M_Model_stop 6 (nI b) (ms v 0 pl (nI b) (nI w) (nI e))).bind _) = _
          rw [p_stop]
          rfl
        · rw [if_neg c, if_neg c]
      cases ho : s_ol s y with
      | true =>
        refine ⟨6, b, w, y, by decide, hw, fun h => (by cases h), fun F B p q fr y0 => ⟨q, nI y, ?_, fun h => (by cases h)⟩, fun pl a => ⟨nI y, nI b, ?_, fun h => (by cases h)⟩⟩
        · rw [hk4]
          show M_Clerk_readWord_b94 4 _ _ 5 _ = _
          rw [w_known rfl (by decide) (by decide) (ow F B p q fr (nI b)), if_neg hy1, k_4 hd.1 (by omega), ho]
          rfl
        · rw [yn, ho]
          rfl
      | false =>
        refine ⟨0, b, w, y, by decide, hw, fun _ => ⟨hy, ho⟩, fun F B p q fr y0 => ⟨q, nI y, ?_, fun _ => ⟨rfl, rfl⟩⟩, fun pl a => ⟨nI y, nI b, ?_, fun _ => rfl⟩⟩
        · rw [hk4]
          show M_Clerk_readWord_b94 4 _ _ 5 _ = _
          rw [w_known rfl (by decide) (by decide) (ow F B p q fr (nI b)), if_neg hy1, k_4 hd.1 (by omega), ho]
          rfl
        · rw [yn, ho]
          rfl
  · refine ⟨f, b, w, 0, by omega, hw, fun h => absurd h f0, fun F B p q fr y0 => ⟨p, q, (hD 4 F B p q fr y0).1 f0, fun h => absurd h f0⟩, fun pl a => ?_⟩
    obtain ⟨a', e9⟩ := hN' pl a
    refine ⟨-1, a', yt _ _ _ ?_ rfl, fun h => absurd h f0⟩
    rw [tn_nx, e9, if_neg f0, if_neg f0]
    rfl
theorem kn6 {Tx : Nat → Int32} {u v : gSt} {s : GS} {T G : NS} {l e cp : Nat} (hT : tD u Tx l) (hM : tM v Tx l) (hd : DA u s T G) (hm : MA v s T G) (hg : GA s T G) (he : e ≤ l) (hc : cp ≤ e) : ∃ k b w y, k ≤ 6 ∧ w ≤ e ∧ (k = 0 → y < s_n s) ∧ (∀ (F B : Int64) (p q fr y0 : Int32), ∃ p' q', M_Clerk_readWord 6 (ds u F B p q fr (nI e) y0 (nI cp)) = some (nI k, ds u F B p' q' fr (nI e) (nI b) (nI w)) ∧ (k = 0 → p' = q ∧ q' = nI y)) ∧ ∀ (pl a : Int32), ∃ r a', M_Model_geneNext (ms v 0 pl a (nI cp) (nI e)) = some (r, if k = 0 then ms v 0 pl (nI b) (nI w) (nI e) else ms v (nI k) (nI b) a' (nI w) (nI e)) ∧ (k = 0 → r = nI y) := by
  have hn9 := hg.1.2.1
  obtain ⟨f, b, w, hf, hb, hw, h0, hD, hN⟩ := rd hT hM he hc
  have hN' := fun (pl a : Int32) => hN (Int32 × gSt) M_Model_geneNext_b14 (fun u => (M_Model_geneOf u).bind fun q17 => if q17.1 = (-1 : Int32) then ((M_Model_stop (3 : Int32) (q17.2.1 42 22) q17.2).bind fun q32 => M_Model_geneNext_b36 q17.1 q32.2) else (M_Model_geneNext_b36 q17.1 q17.2)) pl a
  by_cases f0 : f = 0
  · subst f0
    obtain ⟨hbw, hn⟩ := h0 rfl
    obtain ⟨r, hr⟩ := fo_ex G Tx b w
    have ow := fun (F B : Int64) (p q fr y0 : Int32) => own9 (u := ds u F B p q fr (nI e) y0 (nI w)) (show DA (ds u F B p q fr (nI e) y0 (nI w)) s T G from hd) hg hn hbw hr
    have hk6 := fun (F B : Int64) (p q fr y0 : Int32) => (hD 6 F B p q fr y0).2 rfl
    have tv := fun (pl : Int32) => v_gene (v := v) (pl := pl) (e := nI e) hm hg hM (by omega) hbw hr
    rcases fo_m1 hg.2.2.1 hn9 hr with rfl | ⟨y, hy, rfl, hy1⟩
    · refine ⟨3, b, w, 0, by decide, hw, fun h => (by cases h), fun F B p q fr y0 => ⟨q, -1, ?_, fun h => (by cases h)⟩, fun pl a => ⟨-1, nI b, ?_, fun h => (by cases h)⟩⟩
      · rw [hk6]
        show M_Clerk_readWord_b94 6 _ _ 9 _ = _
        rw [w_known rfl (by decide) (by decide) (ow F B p q fr (nI b)), if_pos rfl]
        rfl
      · obtain ⟨a', e9⟩ := hN' pl a
        rw [gn_nx, e9, if_pos rfl]
        show ((M_Model_geneOf (ms v 0 pl (nI b) (nI w) (nI e))).bind _) = _
        rw [tv, Option.bind_some, if_pos rfl]
        show ((M_Model_stop 3 (nI b) (ms v 0 pl (nI b) (nI w) (nI e))).bind _) = _
        rw [p_stop]
        rfl
    · refine ⟨0, b, w, y, by decide, hw, fun _ => hy, fun F B p q fr y0 => ⟨q, nI y, ?_, fun _ => ⟨rfl, rfl⟩⟩, fun pl a => ⟨nI y, 0, ?_, fun _ => rfl⟩⟩
      · rw [hk6]
        show M_Clerk_readWord_b94 6 _ _ 9 _ = _
        rw [w_known rfl (by decide) (by decide) (ow F B p q fr (nI b)), if_neg hy1, k_36 (Or.inr rfl)]
        rfl
      · obtain ⟨a', e9⟩ := hN' pl a
        rw [gn_nx, e9, if_pos rfl]
        show ((M_Model_geneOf (ms v 0 pl (nI b) (nI w) (nI e))).bind _) = _
        rw [tv, Option.bind_some, if_neg hy1]
        rfl
  · refine ⟨f, b, w, 0, by omega, hw, fun h => absurd h f0, fun F B p q fr y0 => ⟨p, q, (hD 6 F B p q fr y0).1 f0, fun h => absurd h f0⟩, fun pl a => ?_⟩
    obtain ⟨a', e9⟩ := hN' pl a
    refine ⟨-1, a', ?_, fun h => absurd h f0⟩
    rw [gn_nx, e9, if_neg f0, if_neg f0]
    rfl
