/-! What holds between two calls, on both sides. -/
def IT (u : gSt) (Tx : Nat → Int32) (l : Nat) : Prop := tD u Tx l ∧ tM u Tx l
def IC (u : gSt) (s : GS) (T G : NS) : Prop := u.1 0 5 = u.1 42 2 ∧ u.1 0 6 = u.1 42 3 ∧ GA s T G ∧ DA u s T G ∧ Mn u 7 45 44 T ∧ Mn u 10 48 47 G ∧ ∀ i, i < n_c T → u.2.2.1 46 i = nI (n_o T i)
def IR (u : gSt) (s : GS) (r : Nat) : Prop := (¬ u.1 0 7 = 0 → RK u s) ∧ rw_ok u r ∧ PV u r
def IS (u : gSt) (m : Nat) : Prop := m ≤ 160 ∧ u.1 38 3 = nI m ∧ u.1 42 39 = nI m ∧ ∀ i, i < m → u.2.2.1 39 i = u.2.2.1 64 i
def In0 (u : gSt) : Prop := ∃ Tx l s T G r m, IT u Tx l ∧ IC u s T G ∧ Mg u s ∧ IR u s r ∧ IS u m
theorem iv_gb {u w : gSt} {r x y : Nat} (h : w.2.2.2 r = u.2.2.2 r) : gb w r x y = gb u r x y := by
  unfold gb
  rw [h]
theorem iv_Dg {u w : gSt} {s : GS} (h1 : ∀ a j, a = 4 ∨ a = 9 → w.1 a j = u.1 a j) (h3 : ∀ a, a ≤ 24 → w.2.2.2 a = u.2.2.2 a) (h : Dg u s) : Dg w s := by
  obtain ⟨d1, d2, d3, d4, d5, d6, d7, d8, d9, d10⟩ := h
  refine ⟨?_, ?_, ?_, ?_, fun x y a b => ?_, fun x y a b => ?_, fun x y a b => ?_, fun x y a b => ?_, fun y b => ?_, fun y b => ?_⟩
  · rw [h1 4 9 (Or.inl rfl)]
    exact d1
  · rw [h1 9 3 (Or.inr rfl)]
    exact d2
  · rw [h1 4 10 (Or.inl rfl)]
    exact d3
  · rw [h1 4 11 (Or.inl rfl)]
    exact d4
  · rw [iv_gb (h3 14 (by decide))]
    exact d5 x y a b
  · rw [iv_gb (h3 16 (by decide))]
    exact d6 x y a b
  · rw [iv_gb (h3 18 (by decide))]
    exact d7 x y a b
  · rw [iv_gb (h3 20 (by decide))]
    exact d8 x y a b
  · rw [iv_gb (h3 22 (by decide))]
    exact d9 y b
  · rw [iv_gb (h3 24 (by decide))]
    exact d10 y b
theorem iv_Dn {u w : gSt} {a r0 r1 r2 : Nat} {N : NS} (h1 : w.1 a 3 = u.1 a 3) (h2 : w.2.2.2 r0 = u.2.2.2 r0) (h3 : w.2.2.2 r1 = u.2.2.2 r1) (h4 : w.2.2.1 r2 = u.2.2.1 r2) (h : Dn u a r0 r1 r2 N) : Dn w a r0 r1 r2 N := ⟨by rw [h1]; exact h.1, fun i hi => by rw [h2, h3, h4]; exact h.2 i hi⟩
theorem iv_Mn {u w : gSt} {f zs ls : Nat} {N : NS} (h1 : w.1 42 f = u.1 42 f) (h2 : w.2.2.1 zs = u.2.2.1 zs) (h3 : w.2.2.1 ls = u.2.2.1 ls) (h : Mn u f zs ls N) : Mn w f zs ls N := ⟨by rw [h1]; exact h.1, fun i hi => by rw [h2, h3]; exact h.2 i hi⟩
theorem IC_F {u w : gSt} {s : GS} {T G : NS} (h1 : ∀ a j, a = 4 ∨ a = 5 ∨ a = 9 ∨ (a = 0 ∧ (j = 5 ∨ j = 6)) ∨ (a = 42 ∧ 2 ≤ j ∧ j ≤ 10) → w.1 a j = u.1 a j) (h2 : ∀ a, a = 8 ∨ a = 12 ∨ (44 ≤ a ∧ a ≤ 48) → w.2.2.1 a = u.2.2.1 a) (h3 : ∀ a, a ≤ 24 → w.2.2.2 a = u.2.2.2 a) (h : IC u s T G) : IC w s T G := by
  obtain ⟨c1, c2, c3, ⟨c4, c5, c6⟩, c7, c8, c9⟩ := h
  refine ⟨?_, ?_, c3, ⟨iv_Dg (fun a j e => h1 a j (by omega)) h3 c4, iv_Dn (h1 5 3 (by omega)) (h3 6 (by decide)) (h3 7 (by decide)) (h2 8 (by omega)) c5, iv_Dn (h1 9 3 (by omega)) (h3 10 (by decide)) (h3 11 (by decide)) (h2 12 (by omega)) c6⟩, iv_Mn (h1 42 7 (by omega)) (h2 45 (by omega)) (h2 44 (by omega)) c7, iv_Mn (h1 42 10 (by omega)) (h2 48 (by omega)) (h2 47 (by omega)) c8, fun i hi => ?_⟩
  · rw [h1 0 5 (by omega), h1 42 2 (by omega)]
    exact c1
  · rw [h1 0 6 (by omega), h1 42 3 (by omega)]
    exact c2
  · rw [h2 46 (by omega)]
    exact c9 i hi
theorem IT_F {u w : gSt} {Tx : Nat → Int32} {l : Nat} (h1 : w.1 2 1 = u.1 2 1) (h2 : w.1 42 1 = u.1 42 1) (h3 : w.2.2.1 3 = u.2.2.1 3) (h4 : w.2.2.1 43 = u.2.2.1 43) (h : IT u Tx l) : IT w Tx l := ⟨⟨h.1.1, by rw [h1]; exact h.1.2.1, fun i hi => by rw [h3]; exact h.1.2.2 i hi⟩, ⟨h.2.1, by rw [h2]; exact h.2.2.1, fun i hi => by rw [h4]; exact h.2.2.2 i hi⟩⟩
theorem iv_rw {u w : gSt} {r : Nat} (h1 : ∀ j, w.1 27 j = u.1 27 j) (h36 : w.1 42 36 = u.1 42 36) (h2 : ∀ a, (28 ≤ a ∧ a ≤ 35) ∨ (59 ≤ a ∧ a ≤ 63) ∨ 67 ≤ a → w.2.2.1 a = u.2.2.1 a) (h : rw_ok u r) : rw_ok w r := by
  obtain ⟨r1, r2, r3, r4⟩ := h
  refine ⟨r1, by rw [h1]; exact r2, by rw [h36]; exact r3, fun i hi => ?_⟩
  obtain ⟨c, hc, e0, e1, e2, e3, e4, e5⟩ := r4 i hi
  rw [h2 35 (by omega), h2 62 (by omega), h2 28 (by omega), h2 29 (by omega), h2 30 (by omega), h1, h1]
  exact ⟨c, hc, e0, e1, e2, e3, e4, e5⟩
theorem iv_Wv {u w : gSt} {r v : Nat} (h : w.2.2.1 r = u.2.2.1 r) (hv : Wv u r v) : Wv w r v := ⟨hv.1, fun i hi => by rw [h]; exact hv.2 i hi⟩
theorem iv_Sv {u w : gSt} {r f v : Nat} (h : w.2.2.1 r = u.2.2.1 r) (hv : Sv u r f v) : Sv w r f v := ⟨hv.1, fun i hi => by rw [h]; exact hv.2 i hi⟩
theorem iv_PV {u w : gSt} {r : Nat} (h2 : ∀ a, (28 ≤ a ∧ a ≤ 35) ∨ (59 ≤ a ∧ a ≤ 63) ∨ 67 ≤ a → w.2.2.1 a = u.2.2.1 a) (h : PV u r) : PV w r := fun i hi => by
  obtain ⟨A, N, n, c, j, hA, hN, hN2, hc, hj, hw, hS, e35, e61, hval⟩ := h i hi
  refine ⟨A, N, n, c, j, hA, hN, hN2, hc, hj, iv_Wv (h2 33 (by omega)) hw, iv_Sv (h2 63 (by omega)) hS, by rw [h2 35 (by omega)]; exact e35, by rw [h2 61 (by omega)]; exact e61, fun v hv => ?_⟩
  obtain ⟨a, p, sl, ts, rest⟩ := hval v hv
  exact ⟨a, p, ⟨iv_Wv (h2 _ (by omega)) sl.1, by rw [h2 32 (by omega)]; exact sl.2.1, sl.2.2⟩, ⟨iv_Sv (h2 59 (by omega)) ts.1, by rw [h2 60 (by omega)]; exact ts.2⟩, rest⟩
theorem IR_F {u w : gSt} {s : GS} {r : Nat} (h7 : w.1 0 7 = u.1 0 7) (h1 : ∀ j, w.1 27 j = u.1 27 j) (h36 : w.1 42 36 = u.1 42 36) (h2 : ∀ a, (28 ≤ a ∧ a ≤ 35) ∨ (59 ≤ a ∧ a ≤ 63) ∨ 67 ≤ a → w.2.2.1 a = u.2.2.1 a) (h : IR u s r) : IR w s r := ⟨fun e => RK_o (fun j _ => h1 j) (fun a ha => h2 a (by omega)) (h.1 (by rw [← h7]; exact e)), iv_rw h1 h36 h2 h.2.1, iv_PV h2 h.2.2⟩
theorem IS_F {u w : gSt} {m : Nat} (h1 : w.1 38 3 = u.1 38 3) (h2 : w.1 42 39 = u.1 42 39) (h3 : w.2.2.1 39 = u.2.2.1 39) (h4 : w.2.2.1 64 = u.2.2.1 64) (h : IS u m) : IS w m := ⟨h.1, by rw [h1]; exact h.2.1, by rw [h2]; exact h.2.2.1, fun i hi => by rw [h3, h4]; exact h.2.2.2 i hi⟩
/-- a step that leaves text, names and graph, ranking and rows -/
theorem In_W {u w : gSt} {Tx : Nat → Int32} {l : Nat} {s : GS} {T G : NS} {r m : Nat} (hT : IT u Tx l) (hC : IC u s T G) (hR : IR u s r) (hm : Mg w s) (hS : IS w m) (h1 : ∀ a j, (a ≠ 42 ∨ (j ≠ 17 ∧ j ≠ 28 ∧ j ≠ 39 ∧ j ≠ 41)) → (a ≠ 38 ∨ j ≠ 3) → w.1 a j = u.1 a j) (h2 : ∀ a, a ≠ 53 → a ≠ 65 → a ≠ 39 → a ≠ 40 → a ≠ 41 → a ≠ 55 → a ≠ 56 → a ≠ 64 → w.2.2.1 a = u.2.2.1 a) (h3 : ∀ a, a ≠ 66 → a ≠ 26 → w.2.2.2 a = u.2.2.2 a) : In0 w :=
  ⟨Tx, l, s, T, G, r, m, IT_F (h1 2 1 (by omega) (by omega)) (h1 42 1 (by omega) (by omega)) (h2 3 (by decide) (by decide) (by decide) (by decide) (by decide) (by decide) (by decide) (by decide)) (h2 43 (by decide) (by decide) (by decide) (by decide) (by decide) (by decide) (by decide) (by decide)) hT, IC_F (fun a j e => h1 a j (by omega) (by omega)) (fun a e => h2 a (by omega) (by omega) (by omega) (by omega) (by omega) (by omega) (by omega) (by omega)) (fun a e => h3 a (by omega) (by omega)) hC, hm, IR_F (h1 0 7 (by omega) (by omega)) (fun j => h1 27 j (by omega) (by omega)) (h1 42 36 (by omega) (by omega)) (fun a e => h2 a (by omega) (by omega) (by omega) (by omega) (by omega) (by omega) (by omega) (by omega)) hR, hS⟩
/-- a step that writes the law's answer alone -/
theorem In_L {u w : gSt} (h1 : ∀ a j, a ≠ 42 ∨ j ≠ 41 → w.1 a j = u.1 a j) (h2 : w.2.2.1 = u.2.2.1) (h3 : ∀ a, a ≠ 66 → w.2.2.2 a = u.2.2.2 a) (h : In0 u) : In0 w := by
  obtain ⟨Tx, l, s, T, G, r, m, hT, hC, hM, hR, hS⟩ := h
  exact In_W hT hC hR (Mg_F (fun j _ => h1 42 j (by omega)) (fun a _ _ => by rw [h2]) hM) (IS_F (h1 38 3 (by omega)) (h1 42 39 (by omega)) (by rw [h2]) (by rw [h2]) hS) (fun a j e _ => h1 a j (by omega)) (fun a _ _ _ _ _ _ _ _ => by rw [h2]) (fun a e _ => h3 a e)
theorem In_41 {u : gSt} {x : Int32} (h : In0 u) : In0 (gsF u 42 41 x) := In_L (u := u) (fun a j e => gF_o e) rfl (fun _ _ => rfl) h
theorem gL_o {u : gSt} {v : Int64} {a : Nat} (h : a ≠ 66) : (gsL u 66 0 v).2.2.2 a = u.2.2.2 a := if_neg h
theorem In_66 {u : gSt} {v : Int64} (h : In0 u) : In0 (gsL u 66 0 v) := In_L (u := u) (fun _ _ _ => rfl) rfl (fun a e => gL_o e) h
theorem Mg_66 {u : gSt} {v : Int64} {x : Int32} {s : GS} (h : Mg u s) : Mg (gsF (gsL u 66 0 v) 42 41 x) s := Mg_F (u := u) (fun j e => gF_o (u := gsL u 66 0 v) (by omega)) (fun _ _ _ => rfl) h
theorem In_sp {u w : gSt} {v : Int64} {Tx : Nat → Int32} {l : Nat} {s : GS} {T G : NS} {r m : Nat} (hT : IT u Tx l) (hC : IC u s T G) (hM : Mg u s) (hR : IR u s r) (hS : IS u m) (h : sp2 (gsF (gsL u 66 0 v) 42 41 0) w s) : In0 w := by
  have f1 : ∀ a j, (a ≠ 42 ∨ (j ≠ 17 ∧ j ≠ 41)) → w.1 a j = u.1 a j := fun a j e => by
    rw [sp2_F h (by omega), gF_o (by omega)]
    rfl
  have f2 : ∀ a, a ≠ 53 → w.2.2.1 a = u.2.2.1 a := fun a e => by
    rcases h with h | h
    · rw [h]
      rfl
    · rw [h, sp_A e]
      rfl
  have f3 : ∀ a, a ≠ 66 → w.2.2.2 a = u.2.2.2 a := fun a e => by
    rw [sp2_L h]
    exact gL_o e
  exact In_W hT hC hR (sp2_M h (Mg_66 hM) hC.2.2.1.1) (IS_F (f1 38 3 (by omega)) (f1 42 39 (by omega)) (f2 39 (by decide)) (f2 64 (by decide)) hS) (fun a j e _ => f1 a j (by omega)) (fun a e _ _ _ _ _ _ _ => f2 a e) (fun a e _ => f3 a e)
