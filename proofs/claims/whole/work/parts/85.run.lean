/-! The law's case 2: run. -/
theorem p_runL {T : Nat → Int32} {v : gSt} {l : Nat} {x1 x2 : Int32} (hT : tM v T l) : ∀ (d b : Nat), b + d = l → gLp M_Model_run_L36 (x1, x2, nI b, v) = some (x1, x2, nI (wd T 10 d b), v)
  | 0, b, h => by
    have hl := hT.1
    refine gLp_done ?_
    show M_Model_run_b36 x1 x2 (nI b) v = _
    unfold M_Model_run_b36
    rw [hT.2.1, if_pos ((qi_le (by omega) (by omega)).mpr (by omega))]
    rfl
  | d + 1, b, h => by
    have hl := hT.1
    have hs : M_Model_run_L36 (x1, x2, nI b, v) = if T b = 10 then some (.inr (x1, x2, nI b, v)) else some (.inl (x1, x2, nI (b + 1), v)) := by
      show M_Model_run_b36 x1 x2 (nI b) v = _
      unfold M_Model_run_b36
      rw [hT.2.1, if_neg (by rw [qi_le (by omega) (by omega)]; omega), gc_t (qi_in (n := gLen 43) (by omega) (show b < 40000 by omega)), qi_ix (by omega), hT.2.2 b (by omega)]
      show (if T b = 10 then _ else some (Sum.inl (x1, x2, nI b + nI 1, v))) = _
      rw [qi_add]
    unfold wd
    by_cases c : T b = 10
    · rw [if_pos c] at hs ⊢
      exact gLp_done hs
    · rw [if_neg c] at hs ⊢
      rw [gLp_next hs]
      exact p_runL hT d (b + 1) (by omega)
/-- all but the desk's lines -/
def FR (u v : gSt) : Prop := (∀ a j, a ≠ 0 → a ≠ 1 → a ≠ 2 → a ≠ 4 → a ≠ 5 → a ≠ 9 → v.1 a j = u.1 a j) ∧ v.1 2 1 = u.1 2 1 ∧ (∀ a, a ≠ 8 → a ≠ 12 → v.2.2.1 a = u.2.2.1 a) ∧ ∀ a, (a < 6 ∨ 27 ≤ a) → v.2.2.2 a = u.2.2.2 a
theorem FR_0 {u : gSt} : FR u u := ⟨fun _ _ _ _ _ _ _ _ => rfl, rfl, fun _ _ _ => rfl, fun _ _ => rfl⟩
theorem FR_t {u v w : gSt} (h : FR u v) (k : FR v w) : FR u w := by
  obtain ⟨h1, h2, h3, h4⟩ := h
  obtain ⟨k1, k2, k3, k4⟩ := k
  exact ⟨fun a j a0 a1 a2 a4 a5 a9 => by rw [k1 a j a0 a1 a2 a4 a5 a9, h1 a j a0 a1 a2 a4 a5 a9], by rw [k2, h2], fun a a8 a12 => by rw [k3 a a8 a12, h3 a a8 a12], fun a ha => by rw [k4 a ha, h4 a ha]⟩
theorem FR_D {u v : gSt} (h : FD u v) : FR u v := by
  obtain ⟨h1, h2, h3, h4, h5⟩ := h
  exact ⟨fun a j _ a1 a2 a4 a5 a9 => h1 a j a1 a2 a4 a5 a9, h3, h4, h5⟩
theorem FR_1 {u : gSt} {j : Nat} {x : Int32} : FR u (gsF u 1 j x) := by
  refine ⟨fun a i a0 a1 a2 a4 a5 a9 => ?_, rfl, fun _ _ _ => rfl, fun _ _ => rfl⟩
  show (if a = 1 then _ else u.1 a i) = _
  rw [if_neg a1]
theorem tD_R {u v : gSt} {T : Nat → Int32} {l : Nat} (h : FR u v) (hT : tD u T l) : tD v T l := by
  obtain ⟨t1, t2, t3⟩ := hT
  refine ⟨t1, by rw [h.2.1]; exact t2, fun i hi => ?_⟩
  rw [h.2.2.1 3 (by decide) (by decide)]
  exact t3 i hi
theorem tM_M {u v : gSt} {T : Nat → Int32} {l : Nat} (h : FM u v) (hT : tM u T l) : tM v T l := by
  obtain ⟨t1, t2, t3⟩ := hT
  refine ⟨t1, by rw [h.1 42 1 (by omega)]; exact t2, fun i hi => ?_⟩
  rw [h.2.2.1 43 (by omega)]
  exact t3 i hi
/-- how doLines ends -/
noncomputable def fin (z : (Int32 × gSt) ⊕ (Int32 × gSt)) : Option (Int32 × gSt) := (Sum.elim (fun y14_0 => some (y14_0.1, y14_0.2)) (fun y14_1 => if (y14_1.2.1 1 2) = (7 : Int32) then (M_Clerk_doLines_b96 y14_1.1 (y14_1.2.1 2 2) y14_1.2) else (M_Clerk_doLines_b96 y14_1.1 (y14_1.2.1 2 4) y14_1.2))) z
theorem rn_0 {Tx : Nat → Int32} {l c dn : Nat} {u v : gSt} {s : GS} {T G : NS} (cl : l ≤ c) (hcl : c ≤ l + 1) (hT : tD u Tx l) (hM : tM v Tx l) (hd : DA u s T G) (hm : MA v s T G) (hg : GA s T G) (f1 : v.1 42 2 = 0) (f2 : v.1 42 3 = -1) (f3 : u.1 1 2 = 0) (f4 : u.1 1 3 = -1) : ∃ (z : (Int32 × gSt) ⊕ (Int32 × gSt)) (dn' : Int32) (s' : GS) (T' G' : NS) (u' v' : gSt), gLp M_Clerk_doLines_L14 (nI dn, nI c, u) = some z ∧ fin z = some (dn', u') ∧ gLp M_Model_run_L19 (nI dn, nI c, v) = some (dn', v') ∧ GA s' T' G' ∧ DA u' s' T' G' ∧ MA v' s' T' G' ∧ u'.1 1 2 = v'.1 42 2 ∧ u'.1 1 3 = v'.1 42 3 ∧ FR u u' ∧ FM v v' := by
  have h4 := hT.1
  refine ⟨.inl (nI dn, u), nI dn, s, T, G, u, v, gLp_done ?_, rfl, gLp_done ?_, hg, hd, hm, by rw [f1, f3], by rw [f2, f4], FR_0, FM_0⟩
  · show M_Clerk_doLines_b14 (nI dn) (nI c) u = _
    unfold M_Clerk_doLines_b14
    rw [hT.2.1, if_pos ((qi_le (by omega) (by omega)).mpr cl)]
  · show M_Model_run_b19 (nI dn) (nI c) v = _
    unfold M_Model_run_b19
    rw [hM.2.1, if_pos ((qi_le (by omega) (by omega)).mpr cl)]
theorem rn {Tx : Nat → Int32} {l : Nat} : ∀ (m c dn : Nat) (u v : gSt) (s : GS) (T G : NS), l ≤ c + m → dn ≤ c → c ≤ l + 1 → tD u Tx l → tM v Tx l → DA u s T G → MA v s T G → GA s T G → v.1 42 2 = 0 → v.1 42 3 = -1 → u.1 1 2 = 0 → u.1 1 3 = -1 → ∃ (z : (Int32 × gSt) ⊕ (Int32 × gSt)) (dn' : Int32) (s' : GS) (T' G' : NS) (u' v' : gSt), gLp M_Clerk_doLines_L14 (nI dn, nI c, u) = some z ∧ fin z = some (dn', u') ∧ gLp M_Model_run_L19 (nI dn, nI c, v) = some (dn', v') ∧ GA s' T' G' ∧ DA u' s' T' G' ∧ MA v' s' T' G' ∧ u'.1 1 2 = v'.1 42 2 ∧ u'.1 1 3 = v'.1 42 3 ∧ FR u u' ∧ FM v v'
  | 0, c, dn, u, v, s, T, G, hm0, hdn, hcl, hT, hM, hd, hm, hg, f1, f2, f3, f4 => rn_0 (by omega) hcl hT hM hd hm hg f1 f2 f3 f4
  | m + 1, c, dn, u, v, s, T, G, hm0, hdn, hcl, hT, hM, hd, hm, hg, f1, f2, f3, f4 => by
    have h4 := hT.1
    by_cases cl : l ≤ c
    · exact rn_0 cl hcl hT hM hd hm hg f1 f2 f3 f4
    · have hw0 : c < l := by omega
      have hw := wd_ge (T := Tx) (c := 10) (l - c) c
      have oD : M_Text_openLine (nI c) u = some (ds u (u.2.1 1 4) (u.2.1 1 5) (u.1 1 6) (u.1 1 7) (nI c) (nI (wd Tx 10 (l - c) c)) (nI c) (nI c - (1 : Int32))) := by
        have := p_openLine (F := u.2.1 1 4) (B := u.2.1 1 5) (p := u.1 1 6) (q := u.1 1 7) (f := u.1 2 2) (e := u.1 2 3) (b := u.1 2 4) (w := u.1 2 5) hT (show c < l by omega)
        rw [← ds_0] at this
        exact this
      have oM := p_runL (x1 := nI dn) (x2 := nI c) hM (l - c) c (by omega)
      generalize wd Tx 10 (l - c) c = e at hw oD oM
      have sD : M_Clerk_doLines_L14 (nI dn, nI c, u) = (if nI e ≤ nI c then M_Clerk_doLines_b59 (nI dn) (0 : Int32) (ds u (u.2.1 1 4) (u.2.1 1 5) (u.1 1 6) (u.1 1 7) (nI c) (nI e) (nI c) (nI c - (1 : Int32))) else (M_Clerk_doLine (ds u (u.2.1 1 4) (u.2.1 1 5) (u.1 1 6) (u.1 1 7) (nI c) (nI e) (nI c) (nI c - (1 : Int32)))).bind fun q52 => M_Clerk_doLines_b59 (nI dn) q52.1 q52.2) := by
        show M_Clerk_doLines_b14 (nI dn) (nI c) u = _
        unfold M_Clerk_doLines_b14
        rw [hT.2.1, if_neg (by rw [qi_le (by omega) (by omega)]; omega), if_neg (show ¬ (40000 : Int32) ≤ nI dn by rw [show (40000 : Int32) = nI 40000 from rfl, qi_le (by omega) (by omega)]; omega), oD, Option.bind_some]
        rfl
      have sM : M_Model_run_L19 (nI dn, nI c, v) = (M_Model_line (nI c) (nI e) v).bind fun q64 => if (q64.1 42 2) = (0 : Int32) then (M_Model_run_b80 (nI e) (1 : Int32) (nI dn) q64) else (M_Model_run_b80 (nI e) (0 : Int32) (nI dn) q64) := by
        show M_Model_run_b19 (nI dn) (nI c) v = _
        unfold M_Model_run_b19
        rw [hM.2.1, if_neg (by rw [qi_le (by omega) (by omega)]; omega), if_pos f1, oM, Option.bind_some]
      generalize hU : ds u (u.2.1 1 4) (u.2.1 1 5) (u.1 1 6) (u.1 1 7) (nI c) (nI e) (nI c) (nI c - (1 : Int32)) = U at sD
      by_cases ce : c < e
      · have hl := ln (F := u.2.1 1 4) (B := u.2.1 1 5) (p := u.1 1 6) (q := u.1 1 7) (y := nI c) (pl := v.1 42 3) (a := v.1 42 22) (w := v.1 42 23) (e' := v.1 42 24) hT hM hd hm hg (show e ≤ l by omega) ce
        have hv : ms v 0 (v.1 42 3) (v.1 42 22) (v.1 42 23) (v.1 42 24) = v := by
          rw [← f1]
          exact ms_0.symm
        rw [hU, hv] at hl
        obtain ⟨k, pl, s', T', G', u', v', e1, e2, hk, hg', hd', hm', k1, k2, k3, g1, g2, g3⟩ := hl
        rw [if_neg (by rw [qi_le (by omega) (by omega)]; omega), e1, Option.bind_some] at sD
        rw [e2, Option.bind_some, k1] at sM
        have hT' := tD_R (FR_D g1) hT
        have hM' := tM_M g2 hM
        by_cases k0 : k = 0
        · subst k0
          have sD' : M_Clerk_doLines_L14 (nI dn, nI c, u) = some (.inl (nI (dn + 1), nI (e + 1), gsF u' 1 2 0)) := by
            rw [sD]
            unfold M_Clerk_doLines_b59
            show some (Sum.inl (nI dn + nI 1, u'.1 2 3 + nI 1, gsF u' 1 2 0)) = _
            rw [g3, qi_add, qi_add]
          have sM' : M_Model_run_L19 (nI dn, nI c, v) = some (.inl (nI (dn + 1), nI (e + 1), v')) := by
            rw [sM, if_pos (show nI 0 = (0 : Int32) from rfl)]
            unfold M_Model_run_b80
            show some (Sum.inl (nI dn + nI 1, nI e + nI 1, v')) = _
            rw [qi_add, qi_add]
          obtain ⟨z, dn', s2, T2, G2, u2, v2, r1, r2, r3, r4, r5, r6, r7, r8, r9, r10⟩ := rn m (e + 1) (dn + 1) (gsF u' 1 2 0) v' s' T' G' (by omega) (by omega) (by omega) hT' hM' hd' hm' hg' k1 (by rw [k2 rfl]; exact f2) rfl (by rw [show (gsF u' 1 2 0).1 1 3 = u'.1 1 3 from rfl, g1.2.1 3 (by decide)]; exact f4)
          exact ⟨z, dn', s2, T2, G2, u2, v2, by rw [gLp_next sD']; exact r1, r2, by rw [gLp_next sM']; exact r3, r4, r5, r6, r7, r8, FR_t (FR_t (FR_D g1) FR_1) r9, FM_t g2 r10⟩
        · obtain ⟨k4, k5⟩ := k3 k0
          have hk0 : ¬ nI k = 0 := by
            rw [show (0 : Int32) = nI 0 from rfl, qi_eq (by omega) (by omega)]
            exact k0
          have sD' : M_Clerk_doLines_L14 (nI dn, nI c, u) = some (.inr (.inr (nI dn, gsF u' 1 2 (nI k)))) := by
            rw [sD]
            unfold M_Clerk_doLines_b59
            show (if nI k = 0 then _ else some (Sum.inr (Sum.inr (nI dn, gsF u' 1 2 (nI k))))) = _
            rw [if_neg hk0]
          have sM' : M_Model_run_L19 (nI dn, nI c, v) = some (.inl (nI dn, nI (e + 1), v')) := by
            rw [sM, if_neg hk0]
            unfold M_Model_run_b80
            show some (Sum.inl (nI dn + nI 0, nI e + nI 1, v')) = _
            rw [qi_add, qi_add]
            rfl
          have sM2 : M_Model_run_L19 (nI dn, nI (e + 1), v') = some (.inr (nI dn, v')) := by
            show M_Model_run_b19 (nI dn) (nI (e + 1)) v' = _
            unfold M_Model_run_b19
            rw [k1, if_neg hk0]
            split <;> rfl
          have hfin : fin (.inr (nI dn, gsF u' 1 2 (nI k))) = some (nI dn, gsF (gsF u' 1 2 (nI k)) 1 3 pl) := by
            unfold fin M_Clerk_doLines_b96
            show (if nI k = 7 then some (nI dn, gsF (gsF u' 1 2 (nI k)) 1 3 (u'.1 2 2)) else some (nI dn, gsF (gsF u' 1 2 (nI k)) 1 3 (u'.1 2 4))) = _
            by_cases c7 : k = 7
            · rw [if_pos c7] at k5
              rw [if_pos (by rw [c7]; rfl), k5]
            · rw [if_neg c7] at k5
              rw [if_neg (show ¬ nI k = 7 by rw [show (7 : Int32) = nI 7 from rfl, qi_eq (by omega) (by omega)]; exact c7), k5]
          exact ⟨_, nI dn, s', T', G', _, v', gLp_done sD', hfin, by rw [gLp_next sM']; exact gLp_done sM2, hg', hd', hm', k1.symm, k4.symm, FR_t (FR_t (FR_D g1) FR_1) FR_1, g2⟩
      · obtain rfl : e = c := by omega
        have e2 : M_Model_line (nI e) (nI e) v = some v := by
          unfold M_Model_line
          rw [if_pos rfl]
        rw [if_pos ((qi_le (by omega) (by omega)).mpr (Nat.le_refl _))] at sD
        rw [e2, Option.bind_some, if_pos f1] at sM
        have sD' : M_Clerk_doLines_L14 (nI dn, nI e, u) = some (.inl (nI (dn + 1), nI (e + 1), gsF U 1 2 0)) := by
          rw [sD]
          unfold M_Clerk_doLines_b59
          show some (Sum.inl (nI dn + nI 1, U.1 2 3 + nI 1, gsF U 1 2 0)) = _
          rw [show U.1 2 3 = nI e by rw [← hU]; rfl, qi_add, qi_add]
        have sM' : M_Model_run_L19 (nI dn, nI e, v) = some (.inl (nI (dn + 1), nI (e + 1), v)) := by
          rw [sM]
          unfold M_Model_run_b80
          show some (Sum.inl (nI dn + nI 1, nI e + nI 1, v)) = _
          rw [qi_add, qi_add]
        have hFU : FR u (gsF U 1 2 0) := by
          rw [← hU]
          exact FR_t (FR_D FD_ds) FR_1
        have hTU : tD (gsF U 1 2 0) Tx l := tD_R hFU hT
        have hdU : DA (gsF U 1 2 0) s T G := by
          rw [← hU]
          exact hd
        have f4U : (gsF U 1 2 0).1 1 3 = -1 := by
          rw [← hU]
          exact f4
        obtain ⟨z, dn', s2, T2, G2, u2, v2, r1, r2, r3, r4, r5, r6, r7, r8, r9, r10⟩ := rn m (e + 1) (dn + 1) (gsF U 1 2 0) v s T G (by omega) (by omega) (by omega) hTU hM hdU hm hg f1 f2 rfl f4U
        exact ⟨z, dn', s2, T2, G2, u2, v2, by rw [gLp_next sD']; exact r1, r2, by rw [gLp_next sM']; exact r3, r4, r5, r6, r7, r8, FR_t hFU r9, r10⟩
theorem MA_c {u v : gSt} {s : GS} {T G : NS} (h1 : ∀ j, j ≠ 41 → j ≠ 2 → j ≠ 3 → v.1 42 j = u.1 42 j) (h2 : ∀ a, 44 ≤ a → a < 55 → v.2.2.1 a = u.2.2.1 a) (h : MA u s T G) : MA v s T G := by
  obtain ⟨⟨m1, m2, m3, m4, m5, m6, m7, m8, m9, m10, m11, m12⟩, n1, n2, n3⟩ := h
  unfold MA Mg Mn
  rw [h1 11 (by decide) (by decide) (by decide), h1 10 (by decide) (by decide) (by decide), h1 18 (by decide) (by decide) (by decide), h1 19 (by decide) (by decide) (by decide), h1 17 (by decide) (by decide) (by decide), h1 21 (by decide) (by decide) (by decide), h1 7 (by decide) (by decide) (by decide), h2 50 (by decide) (by decide), h2 51 (by decide) (by decide), h2 52 (by decide) (by decide), h2 53 (by decide) (by decide), h2 49 (by decide) (by decide), h2 54 (by decide) (by decide), h2 45 (by decide) (by decide), h2 44 (by decide) (by decide), h2 48 (by decide) (by decide), h2 47 (by decide) (by decide), h2 46 (by decide) (by decide)]
  exact ⟨⟨m1, m2, m3, m4, m5, m6, m7, m8, m9, m10, m11, m12⟩, n1, n2, n3⟩
theorem DA_c {u v : gSt} {s : GS} {T G : NS} (h1 : ∀ a j, (a = 4 ∨ a = 5 ∨ a = 9) → v.1 a j = u.1 a j) (h2 : ∀ a, (a = 8 ∨ a = 12) → v.2.2.1 a = u.2.2.1 a) (h3 : ∀ a, 6 ≤ a → a < 26 → v.2.2.2 a = u.2.2.2 a) (h : DA u s T G) : DA v s T G := by
  obtain ⟨⟨d1, d2, d3, d4, d5, d6, d7, d8, d9, d10⟩, n1, n2⟩ := h
  unfold DA Dg Dn gb
  rw [h1 4 9 (by omega), h1 9 3 (by omega), h1 4 10 (by omega), h1 4 11 (by omega), h1 5 3 (by omega), h2 8 (by omega), h2 12 (by omega), h3 14 (by decide) (by decide), h3 16 (by decide) (by decide), h3 18 (by decide) (by decide), h3 20 (by decide) (by decide), h3 22 (by decide) (by decide), h3 24 (by decide) (by decide), h3 6 (by decide) (by decide), h3 7 (by decide) (by decide), h3 10 (by decide) (by decide), h3 11 (by decide) (by decide)]
  exact ⟨⟨d1, d2, d3, d4, d5, d6, d7, d8, d9, d10⟩, n1, n2⟩
/-- what run leaves as it is -/
def FZ (u w : gSt) : Prop := (∀ a j, a ≠ 0 → a ≠ 1 → a ≠ 2 → a ≠ 4 → a ≠ 5 → a ≠ 9 → (a ≠ 42 ∨ (25 ≤ j ∧ j ≠ 41)) → w.1 a j = u.1 a j) ∧ (∀ a, a ≠ 8 → a ≠ 12 → (a < 44 ∨ 55 ≤ a) → w.2.2.1 a = u.2.2.1 a) ∧ ∀ a, (a < 6 ∨ 27 ≤ a) → w.2.2.2 a = u.2.2.2 a
theorem p_c2 {L : Nat} {xs : Nat → Int32} {x : Int32} {Tx : Nat → Int32} {l : Nat} {u : gSt} {s : GS} {T G : NS} (hT : tD u Tx l) (hM : tM u Tx l) (hd : DA u s T G) (hm : MA u s T G) (hg : GA s T G) : ∃ w s' T' G', M_Law_c2 L xs x u = some w ∧ GA s' T' G' ∧ DA w s' T' G' ∧ MA w s' T' G' ∧ w.1 0 5 = w.1 42 2 ∧ w.1 0 6 = w.1 42 3 ∧ w.1 2 1 = 0 ∧ w.1 42 1 = 0 ∧ w.1 0 7 = 0 ∧ FZ u w := by
  have hTu : tD (gsF (gsF u 1 2 0) 1 3 (-1)) Tx l := hT
  have hdu : DA (gsF (gsF u 1 2 0) 1 3 (-1)) s T G := hd
  have hM0 : tM (gsF (gsF (gsF u 42 41 0) 42 2 0) 42 3 (-1)) Tx l := hM
  have hm0 : MA (gsF (gsF (gsF u 42 41 0) 42 2 0) 42 3 (-1)) s T G := hm
  obtain ⟨z, dn, -, -, -, u', -, r1, r2, -, -, -, -, -, -, r9, -⟩ := rn l 0 0 (gsF (gsF u 1 2 0) 1 3 (-1)) (gsF (gsF (gsF u 42 41 0) 42 2 0) 42 3 (-1)) s T G (by omega) (Nat.le_refl _) (by omega) hTu hM0 hdu hm0 hg rfl rfl rfl rfl
  have hR : M_Desk_run u = some (dn, gsF (gsF (gsF (gsF u' 0 5 (u'.1 1 2)) 0 6 (u'.1 1 3)) 2 1 0) 0 7 0) := by
    unfold M_Desk_run M_Clerk_doLines
    show (((gLp M_Clerk_doLines_L14 (nI 0, nI 0, gsF (gsF u 1 2 0) 1 3 (-1))).bind fun y14 => fin y14).bind _) = _
    rw [r1, Option.bind_some, r2, Option.bind_some]
    rfl
  generalize hu2 : gsF (gsF (gsF (gsF u' 0 5 (u'.1 1 2)) 0 6 (u'.1 1 3)) 2 1 0) 0 7 0 = u2 at hR
  have fr : ∀ a j, a ≠ 0 → a ≠ 1 → a ≠ 2 → a ≠ 4 → a ≠ 5 → a ≠ 9 → u2.1 a j = u.1 a j := fun a j a0 a1 a2 a4 a5 a9 => by
    rw [← hu2]
    show (if a = 0 then _ else if a = 2 then _ else if a = 0 then _ else if a = 0 then _ else u'.1 a j) = _
    rw [if_neg a0, if_neg a2, if_neg a0, if_neg a0, r9.1 a j a0 a1 a2 a4 a5 a9]
    show (if a = 1 then _ else if a = 1 then _ else u.1 a j) = _
    rw [if_neg a1, if_neg a1]
  have fa : ∀ a, a ≠ 8 → a ≠ 12 → u2.2.2.1 a = u.2.2.1 a := fun a a8 a12 => by
    rw [← hu2]
    exact r9.2.2.1 a a8 a12
  have fl : ∀ a, (a < 6 ∨ 27 ≤ a) → u2.2.2.2 a = u.2.2.2 a := fun a ha => by
    rw [← hu2]
    exact r9.2.2.2 a ha
  have hM2 : tM (gsF (gsF (gsF u2 42 41 0) 42 2 0) 42 3 (-1)) Tx l := by
    obtain ⟨t1, t2, t3⟩ := hM
    refine ⟨t1, ?_, fun i hi => ?_⟩
    · show u2.1 42 1 = nI l
      rw [fr 42 1 (by decide) (by decide) (by decide) (by decide) (by decide) (by decide)]
      exact t2
    · show u2.2.2.1 43 i = Tx i
      rw [fa 43 (by decide) (by decide)]
      exact t3 i hi
  have hm2 : MA (gsF (gsF (gsF u2 42 41 0) 42 2 0) 42 3 (-1)) s T G := by
    refine MA_c (u := u) (fun j h41 h2 h3 => ?_) (fun a h1 h2 => fa a (by omega) (by omega)) hm
    show (if j = 3 then _ else if j = 2 then _ else if j = 41 then _ else u2.1 42 j) = _
    rw [if_neg h3, if_neg h2, if_neg h41, fr 42 j (by decide) (by decide) (by decide) (by decide) (by decide) (by decide)]
  obtain ⟨z2, dn2, s', T', G', u3, v3, q1, q2, q3, q4, q5, q6, q7, q8, q9, q10⟩ := rn l 0 0 (gsF (gsF u 1 2 0) 1 3 (-1)) (gsF (gsF (gsF u2 42 41 0) 42 2 0) 42 3 (-1)) s T G (by omega) (Nat.le_refl _) (by omega) hTu hM2 hdu hm2 hg rfl rfl rfl rfl
  have ez : z2 = z := Option.some.inj (q1.symm.trans r1)
  subst ez
  have eu : (dn2, u3) = (dn, u') := Option.some.inj (q2.symm.trans r2)
  have eu1 : dn2 = dn := congrArg Prod.fst eu
  have eu2 : u3 = u' := congrArg Prod.snd eu
  subst eu1 eu2
  have hR2 : M_Model_run u2 = some (dn2, gsF v3 42 1 0) := by
    unfold M_Model_run
    show ((gLp M_Model_run_L19 (nI 0, nI 0, gsF (gsF (gsF u2 42 41 0) 42 2 0) 42 3 (-1))).bind _) = _
    rw [q3]
    rfl
  have fm : ∀ a j, a ≠ 42 → v3.1 a j = u2.1 a j := fun a j ha => by
    rw [q10.1 a j (Or.inl ha)]
    show (if a = 42 then _ else if a = 42 then _ else if a = 42 then _ else u2.1 a j) = _
    rw [if_neg ha, if_neg ha, if_neg ha]
  refine ⟨gsF v3 42 1 0, s', T', G', ?_, q4, ?_, q6, ?_, ?_, ?_, rfl, ?_, ?_⟩
  · unfold M_Law_c2
    rw [hR, Option.bind_some, hR2, Option.bind_some, if_pos rfl]
  · have hd3 : DA u2 s' T' G' := by
      rw [← hu2]
      exact q5
    refine DA_c (u := u2) (fun a j ha => ?_) (fun a ha => ?_) (fun a h1 h2 => ?_) hd3
    · show (if a = 42 then _ else v3.1 a j) = _
      rw [if_neg (by omega), fm a j (by omega)]
    · show v3.2.2.1 a = _
      rw [q10.2.2.1 a (by omega)]
      rfl
    · show v3.2.2.2 a = _
      rw [q10.2.2.2]
      rfl
  · show v3.1 0 5 = v3.1 42 2
    rw [fm 0 5 (by decide), ← q7, ← hu2]
    rfl
  · show v3.1 0 6 = v3.1 42 3
    rw [fm 0 6 (by decide), ← q8, ← hu2]
    rfl
  · show v3.1 2 1 = 0
    rw [fm 2 1 (by decide), ← hu2]
    rfl
  · show v3.1 0 7 = 0
    rw [fm 0 7 (by decide), ← hu2]
    rfl
  · refine ⟨fun a j a0 a1 a2 a4 a5 a9 ha => ?_, fun a a8 a12 ha => ?_, fun a ha => ?_⟩
    · show (if a = 42 then (if j = 1 then 0 else v3.1 a j) else v3.1 a j) = _
      by_cases c : a = 42
      · rw [if_pos c, if_neg (by omega), q10.1 a j (by omega)]
        show (if a = 42 then (if j = 3 then _ else if a = 42 then (if j = 2 then _ else if a = 42 then (if j = 41 then _ else u2.1 a j) else u2.1 a j) else _) else _) = _
        rw [if_pos c, if_neg (by omega), if_pos c, if_neg (by omega), if_pos c, if_neg (by omega)]
        exact fr a j a0 a1 a2 a4 a5 a9
      · rw [if_neg c, fm a j c]
        exact fr a j a0 a1 a2 a4 a5 a9
    · show v3.2.2.1 a = _
      rw [q10.2.2.1 a ha]
      exact fa a a8 a12
    · show v3.2.2.2 a = _
      rw [q10.2.2.2]
      exact fl a ha
