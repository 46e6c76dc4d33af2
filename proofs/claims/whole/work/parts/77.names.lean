/-! Names added at the board; all that the board says. -/
theorem p_add {a r0 r1 r2 c : Nat} {u : gSt} {y1 y3 : Int64} {x5 : Int32} (ka : gK a = 4) (f0 : gFR a 0 = some r0) (f1 : gFR a 1 = some r1) (f2 : gFR a 2 = some r2) (k0' : gK r0 = 24) (k1' : gK r1 = 24) (k2' : gK r2 = 22) (hc : u.1 a 3 = nI c) (hcb : c < 1000) (h0 : c < gLen r0) (h1 : c < gLen r1) (h2 : c < gLen r2) : M_NameList_add a y1 y3 x5 u = some (gsF (gsA (gsL (gsL u r0 c y1) r1 c y3) r2 c x5) a 3 (nI (c + 1))) := by
  have g1 : (gK a == 4) = true := by rw [ka]; rfl
  have g2 : (gK r0 == 24) = true := by rw [k0']; rfl
  have g3 : (gK r1 == 24) = true := by rw [k1']; rfl
  have g4 : (gK r2 == 22) = true := by rw [k2']; rfl
  unfold M_NameList_add
  rw [gc_t g1, f0, Option.bind_some, gc_t g1, gc_t g2, hc, gc_t (qi_in (by omega) h0), qi_ix (by omega), Option.bind_some, gc_t g1, f1, Option.bind_some, gc_t g1, gc_t g3, show (gsL u r0 c y1).1 a 3 = nI c from hc, gc_t (qi_in (by omega) h1), qi_ix (by omega), Option.bind_some, gc_t g1, f2, Option.bind_some, gc_t g1, gc_t g4, show (gsL (gsL u r0 c y1) r1 c y3).1 a 3 = nI c from hc, gc_t (qi_in (by omega) h2), qi_ix (by omega), Option.bind_some, gc_t g1, gc_t g1, show (gsA (gsL (gsL u r0 c y1) r1 c y3) r2 c x5).1 a 3 = nI c from hc, show (1 : Int32) = nI 1 from rfl, qi_add]
  rfl
theorem Dn_push {u : gSt} {a r0 r1 r2 z o : Nat} {N : NS} {l : Nat → Nat} {y1 y3 : Int64} (h : Dn u a r0 r1 r2 N) (hr : r0 ≠ r1) (e1 : y1 = lN (pv (fun k => if 0 + k < z then l (0 + k) else 0) 6)) (e3 : y3 = lN (pv (fun k => if 6 + k < z then l (6 + k) else 0) 6)) : Dn (gsF (gsA (gsL (gsL u r0 (n_c N) y1) r1 (n_c N) y3) r2 (n_c N) (nI o)) a 3 (nI (n_c N + 1))) a r0 r1 r2 (n_push N z l o) := by
  obtain ⟨h1, h2⟩ := h
  refine ⟨?_, fun i hi => ?_⟩
  · show (if a = a then (if 3 = 3 then nI (n_c N + 1) else u.1 a 3) else u.1 a 3) = nI (n_c N + 1)
    rw [if_pos rfl, if_pos rfl]
  · have hi' : i < n_c N + 1 := hi
    have q0 : (gsF (gsA (gsL (gsL u r0 (n_c N) y1) r1 (n_c N) y3) r2 (n_c N) (nI o)) a 3 (nI (n_c N + 1))).2.2.2 r0 i = if i = n_c N then y1 else u.2.2.2 r0 i := by
      show (if r0 = r1 then vp_updL (if r0 = r0 then vp_updL (u.2.2.2 r0) (n_c N) y1 else u.2.2.2 r0) (n_c N) y3 else (if r0 = r0 then vp_updL (u.2.2.2 r0) (n_c N) y1 else u.2.2.2 r0)) i = _
      rw [if_neg hr, if_pos rfl]
      rfl
    have q1 : (gsF (gsA (gsL (gsL u r0 (n_c N) y1) r1 (n_c N) y3) r2 (n_c N) (nI o)) a 3 (nI (n_c N + 1))).2.2.2 r1 i = if i = n_c N then y3 else u.2.2.2 r1 i := by
      show (if r1 = r1 then vp_updL (if r1 = r0 then vp_updL (u.2.2.2 r1) (n_c N) y1 else u.2.2.2 r1) (n_c N) y3 else (if r1 = r0 then vp_updL (u.2.2.2 r1) (n_c N) y1 else u.2.2.2 r1)) i = _
      rw [if_pos rfl, if_neg (Ne.symm hr)]
      rfl
    have q2 : (gsF (gsA (gsL (gsL u r0 (n_c N) y1) r1 (n_c N) y3) r2 (n_c N) (nI o)) a 3 (nI (n_c N + 1))).2.2.1 r2 i = if i = n_c N then nI o else u.2.2.1 r2 i := by
      show (if r2 = r2 then upd (u.2.2.1 r2) (n_c N) (nI o) else u.2.2.1 r2) i = _
      rw [if_pos rfl]
      rfl
    rw [q0, q1, q2]
    by_cases e : i = n_c N
    · have w : ∀ first, nd (n_push N z l o) i first = fun k => if first + k < z then l (first + k) else 0 := fun first => by
        funext k
        show (if first + k < (if i = n_c N then z else n_z N i) then (if i = n_c N then l else n_l N i) (first + k) else 0) = _
        rw [if_pos e, if_pos e]
      rw [if_pos e, if_pos e, if_pos e, w, w]
      refine ⟨e1, e3, ?_⟩
      show nI o = nI (if i = n_c N then o else n_o N i)
      rw [if_pos e]
    · have w : ∀ first, nd (n_push N z l o) i first = nd N i first := fun first => by
        funext k
        show (if first + k < (if i = n_c N then z else n_z N i) then (if i = n_c N then l else n_l N i) (first + k) else 0) = _
        rw [if_neg e, if_neg e]
        rfl
      rw [if_neg e, if_neg e, if_neg e, w, w]
      obtain ⟨a1, a2, a3⟩ := h2 i (by omega)
      refine ⟨a1, a2, ?_⟩
      show _ = nI (if i = n_c N then o else n_o N i)
      rw [if_neg e]
      exact a3
/-- all that the board says -/
def DA (u : gSt) (s : GS) (T G : NS) : Prop := Dg u s ∧ Dn u 5 6 7 8 T ∧ Dn u 9 10 11 12 G
def GA (s : GS) (T G : NS) : Prop := Gd s ∧ Gn T (s_t s) ∧ Gn G (s_n s) ∧ n_c T ≤ 300 ∧ n_c G = s_n s ∧ ∀ i, i < n_c G → n_o G i = i
/-- the board alone has changed -/
def FO (u v : gSt) : Prop := (∀ a j, a ≠ 4 → a ≠ 5 → a ≠ 9 → v.1 a j = u.1 a j) ∧ (∀ a, a ≠ 8 → a ≠ 12 → v.2.2.1 a = u.2.2.1 a) ∧ ∀ a, (a < 6 ∨ 27 ≤ a) → v.2.2.2 a = u.2.2.2 a
theorem FO_G {u v : gSt} (h : FG u v) : FO u v := by
  obtain ⟨h1, h2, h3, h4⟩ := h
  exact ⟨fun a j ha _ _ => h1 a j ha, fun a _ _ => by rw [h3], fun a ha => h4 a (by omega)⟩
theorem FO_0 {u : gSt} : FO u u := ⟨fun _ _ _ _ _ => rfl, fun _ _ _ => rfl, fun _ _ => rfl⟩
theorem FG_A {u v : gSt} {s s' : GS} {T G : NS} (h : FG u v) (hd : DA u s T G) (hv : Dg v s') : DA v s' T G := ⟨hv, FG_n h hd.2.1 (by decide) (by decide) (by decide), FG_n h hd.2.2 (by decide) (by decide) (by decide)⟩
theorem FO_L {u : gSt} {a r0 r1 r2 c : Nat} {y1 y3 : Int64} {x v : Int32} (ha : a = 5 ∨ a = 9) (h0 : 6 ≤ r0 ∧ r0 < 27) (h1 : 6 ≤ r1 ∧ r1 < 27) (h2 : r2 = 8 ∨ r2 = 12) : FO u (gsF (gsA (gsL (gsL u r0 c y1) r1 c y3) r2 c x) a 3 v) := by
  refine ⟨fun b j h4 h5 h9 => ?_, fun b h8 h12 => ?_, fun b hb => ?_⟩
  · show (if b = a then _ else u.1 b j) = _
    rw [if_neg (by omega)]
  · show (if b = r2 then _ else u.2.2.1 b) = _
    rw [if_neg (by omega)]
  · show (if b = r1 then _ else (if b = r0 then _ else u.2.2.2 b)) = _
    rw [if_neg (by omega), if_neg (by omega)]
theorem o_addTerm {u : gSt} {s : GS} {T G : NS} {z : Nat} {l : Nat → Nat} {y1 y3 : Int64} (hd : DA u s T G) (hg : GA s T G) (ht : s_t s < 200) (hc : n_c T < 300) (e1 : y1 = lN (pv (fun k => if 0 + k < z then l (0 + k) else 0) 6)) (e3 : y3 = lN (pv (fun k => if 6 + k < z then l (6 + k) else 0) 6)) : ∃ v, M_Board_addTerm y1 y3 u = some v ∧ FO u v ∧ DA v (s_add s) (n_push T z l (s_t s)) G := by
  obtain ⟨⟨d1, d2, d3, d4, d5, d6, d7, d8, d9, d10⟩, dT, dG⟩ := hd
  have hp := p_add (a := 5) (r0 := 6) (r1 := 7) (r2 := 8) (c := n_c T) (u := u) (y1 := y1) (y3 := y3) (x5 := nI (s_t s)) rfl rfl rfl rfl rfl rfl rfl dT.1 (by omega) (show n_c T < 300 from hc) (show n_c T < 300 from hc) (show n_c T < 300 from hc)
  have hn := Dn_push (z := z) (o := s_t s) (l := l) (y1 := y1) (y3 := y3) dT (by decide) e1 e3
  have hf := FO_L (u := u) (a := 5) (r0 := 6) (r1 := 7) (r2 := 8) (c := n_c T) (y1 := y1) (y3 := y3) (x := nI (s_t s)) (v := nI (n_c T + 1)) (by decide) (by decide) (by decide) (by decide)
  refine ⟨gsF (gsF (gsA (gsL (gsL u 6 (n_c T) y1) 7 (n_c T) y3) 8 (n_c T) (nI (s_t s))) 5 3 (nI (n_c T + 1))) 4 9 (nI (s_t s + 1)), ?_, ?_, ⟨rfl, d2, d3, d4, d5, d6, d7, fun y g hy hg9 => ?_, d9, d10⟩, hn, dG⟩
  · unfold M_Board_addTerm
    rw [d1, hp, Option.bind_some]
    show some (gsF _ 4 9 (u.1 4 9 + nI 1)) = _
    rw [d1, qi_add]
  · exact ⟨fun b j h4 h5 h9 => (if_neg h4).trans (hf.1 b j h4 h5 h9), hf.2.1, hf.2.2⟩
  · rw [av_add hg.1]
    exact d8 y g hy hg9
theorem o_addName {u : gSt} {s : GS} {T G : NS} {z o : Nat} {l : Nat → Nat} {y1 y3 : Int64} (hd : DA u s T G) (hc : n_c T < 300) (e1 : y1 = lN (pv (fun k => if 0 + k < z then l (0 + k) else 0) 6)) (e3 : y3 = lN (pv (fun k => if 6 + k < z then l (6 + k) else 0) 6)) : ∃ v, M_NameList_add 5 y1 y3 (nI o) u = some v ∧ FO u v ∧ DA v s (n_push T z l o) G := by
  obtain ⟨⟨d1, d2, d3, d4, d5, d6, d7, d8, d9, d10⟩, dT, dG⟩ := hd
  have hp := p_add (a := 5) (r0 := 6) (r1 := 7) (r2 := 8) (c := n_c T) (u := u) (y1 := y1) (y3 := y3) (x5 := nI o) rfl rfl rfl rfl rfl rfl rfl dT.1 (by omega) (show n_c T < 300 from hc) (show n_c T < 300 from hc) (show n_c T < 300 from hc)
  have hn := Dn_push (z := z) (o := o) (l := l) (y1 := y1) (y3 := y3) dT (by decide) e1 e3
  exact ⟨_, hp, FO_L (by decide) (by decide) (by decide) (by decide), ⟨d1, d2, d3, d4, d5, d6, d7, d8, d9, d10⟩, hn, dG⟩
theorem o_addGene {u : gSt} {s : GS} {T G : NS} {z : Nat} {l : Nat → Nat} {y1 y3 : Int64} (hd : DA u s T G) (hg : GA s T G) (hc : s_n s < 200) (e1 : y1 = lN (pv (fun k => if 0 + k < z then l (0 + k) else 0) 6)) (e3 : y3 = lN (pv (fun k => if 6 + k < z then l (6 + k) else 0) 6)) : ∃ v, M_Board_addGene y1 y3 u = some v ∧ FO u v ∧ DA v (s_gen s) T (n_push G z l (s_n s)) := by
  obtain ⟨⟨d1, d2, d3, d4, d5, d6, d7, d8, d9, d10⟩, dT, dG⟩ := hd
  have hcn := hg.2.2.2.2.1
  have hp := p_add (a := 9) (r0 := 10) (r1 := 11) (r2 := 12) (c := n_c G) (u := u) (y1 := y1) (y3 := y3) (x5 := nI (s_n s)) rfl rfl rfl rfl rfl rfl rfl dG.1 (by omega) (show n_c G < 200 by omega) (show n_c G < 200 by omega) (show n_c G < 200 by omega)
  have hn := Dn_push (z := z) (o := s_n s) (l := l) (y1 := y1) (y3 := y3) dG (by decide) e1 e3
  refine ⟨_, ?_, FO_L (u := u) (a := 9) (r0 := 10) (r1 := 11) (r2 := 12) (c := n_c G) (y1 := y1) (y3 := y3) (x := nI (s_n s)) (v := nI (n_c G + 1)) (by decide) (by decide) (by decide) (by decide), ⟨d1, ?_, d3, d4, d5, d6, d7, d8, d9, d10⟩, dT, hn⟩
  · unfold M_Board_addGene
    rw [d2, hp]
    rfl
  · show nI (n_c G + 1) = nI (s_n s + 1)
    rw [hcn]
