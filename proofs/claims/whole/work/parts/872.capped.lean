/-! The class's slots written: setCapped, copySlot, reckonChance. -/
/-- the slot i alone has changed, and the scratch rows -/
def FS (u v : gSt) (i : Nat) : Prop := v.1 = u.1 ∧ v.2.1 = u.2.1 ∧ (∀ a, a ≠ 36 → a ≠ 37 → a ≠ 32 → a ≠ 67 + i → v.2.2.1 a = u.2.2.1 a) ∧ (∀ k, k ≠ i → v.2.2.1 32 k = u.2.2.1 32 k) ∧ v.2.2.2 = u.2.2.2
theorem FS_t {u v w : gSt} {i : Nat} (h : FS u v i) (k : FS v w i) : FS u w i := by
  obtain ⟨h1, h2, h3, h4, h5⟩ := h
  obtain ⟨k1, k2, k3, k4, k5⟩ := k
  exact ⟨by rw [k1, h1], by rw [k2, h2], fun a a1 a2 a3 a4 => by rw [k3 a a1 a2 a3 a4, h3 a a1 a2 a3 a4], fun j hj => by rw [k4 j hj, h4 j hj], by rw [k5, h5]⟩
theorem FS_sc {u : gSt} {f g : Nat → Int32} {i : Nat} : FS u (sc u f g) i := ⟨rfl, rfl, fun a a1 a2 _ _ => sc_o a1 a2, fun k _ => by rw [sc_o (by decide) (by decide)], rfl⟩
theorem FS_w {u : gSt} {i r v : Nat} (h : r = 36 ∨ r = 37 ∨ r = 67 + i) : FS u (wr u r v) i := by
  refine ⟨rfl, rfl, fun a a1 a2 _ a4 => ?_, fun k _ => ?_, rfl⟩
  · unfold wr
    rw [gsR_b (by omega)]
  · unfold wr
    rw [gsR_b (by omega)]
theorem FS_d {u : gSt} {i : Nat} {x : Int32} : FS u (gsA u 32 i x) i := by
  rw [gsA_R]
  exact ⟨rfl, rfl, fun a _ _ a3 _ => gsR_b a3, fun k hk => by rw [gsR_a]; exact pk_un hk, rfl⟩
theorem FS_v {u v : gSt} {i b x : Nat} (h : FS u v i) (h1 : b ≠ 36) (h2 : b ≠ 37) (h3 : b ≠ 32) (h4 : b ≠ 67 + i) (hw : Wv u b x) : Wv v b x := by
  refine ⟨hw.1, fun k hk => ?_⟩
  rw [h.2.2.1 b h1 h2 h3 h4]
  exact hw.2 k hk
theorem FS_l {u v : gSt} {i j a p : Nat} (h : FS u v i) (hj : j ≠ i) (hs : Sl u j a p) : Sl v j a p := by
  obtain ⟨s1, s2, s3⟩ := hs
  exact ⟨FS_v h (by omega) (by omega) (by omega) (by omega) s1, by rw [h.2.2.2.1 j hj]; exact s2, s3⟩
def capN (x all t b : Nat) : Nat := if all * b ≤ x * t then all else x * t
def capD (x all t b : Nat) : Nat := if all * b ≤ x * t then 1 else b
/-- the class in the midst of setCapped -/
def cpU (u : gSt) (i x t b all : Nat) : gSt := wr (gsA (wr u (67 + i) (x * t)) 32 i (nI b)) 37 (all * b)
theorem Wv_d {u : gSt} {i r v : Nat} {x : Int32} (hr : r ≠ 32) (h : Wv u r v) : Wv (gsA u 32 i x) r v := by
  refine ⟨h.1, fun k hk => ?_⟩
  rw [gsA_R, gsR_b hr]
  exact h.2 k hk
theorem d_at {u : gSt} {i : Nat} {x : Int32} : (gsA u 32 i x).2.2.1 32 i = x := by
  rw [gsA_R, gsR_a]
  exact pk_us
theorem wr_32 {u : gSt} {r v i : Nat} (hr : r ≠ 32) : (wr u r v).2.2.1 32 i = u.2.2.1 32 i := by
  unfold wr
  rw [gsR_b (Ne.symm hr)]
theorem lt89 {y : Nat} (hy : y ≤ 2 ^ 200 * 200) : y < 1000000000 ^ 8 := Nat.lt_of_le_of_lt hy (by decide)
theorem slot_0 {c : Nat} {u : gSt} : M_Ranking_slot (0 : Int32) (nI c) u = some (nI c, u) := by
  have := slot_n (v := 0) (c := c) (u := u)
  rw [Nat.mul_zero, Nat.zero_add] at this
  exact this
theorem p_capM {u : gSt} {i c x all t b : Nat} (hi : i < 800) (hc : c < 200) (hx : Wv u (67 + c) x) (hA : Wv u 33 all) (hxt : x * t ≤ 2 ^ 200 * 200) (hab : all * b ≤ 2 ^ 200 * 200) (ht : t ≤ 200) (hb : b ≤ 200) : M_Ranking_setCapped (nI i) (nI c) (nI t) (nI b) u = if cmp (x * t) (all * b) < (0 : Int32) then some (cpU u i x t b all) else some (gsA (wr (cpU u i x t b all) (67 + i) all) 32 i 1) := by
  have gi : gIn (nI i) (gLen 31) = true := qi_in (n := gLen 31) (by omega) (show i < 800 from hi)
  have gd : gIn (nI i) (gLen 32) = true := qi_in (n := gLen 32) (by omega) (show i < 800 from hi)
  have a2 : Wv (gsA (wr u (67 + i) (x * t)) 32 i (nI b)) 33 all := Wv_d (by decide) (wr_b (by omega) hA)
  have a5 : Wv (cpU u i x t b all) 33 all := wr_b (by decide) a2
  have v5 : Wv (cpU u i x t b all) (67 + i) (x * t) := wr_b (by omega) (Wv_d (by omega) (wr_v (lt89 hxt)))
  have w5 : Wv (cpU u i x t b all) 37 (all * b) := wr_v (lt89 hab)
  unfold M_Ranking_setCapped M_Ranking_setCapped_b93
  rw [slot_0, Option.bind_some, gc_t (qi_in (n := gLen 31) (by omega) (show c < 800 by omega)), qi_ix (show c < 2147483648 by omega), gAR_s (show c < 800 by omega), Option.bind_some, gc_t gi, qi_ix (show i < 2147483648 by omega), gAR_s hi, Option.bind_some, p_copy (gK_s (by omega)) (gK_s hi) gLen_s gLen_s hx, Option.bind_some, gc_t gi, Option.bind_some, p_multiply (gK_s hi) gLen_s (wr_v hx.1) (by omega), wr_wr, Option.bind_some, gc_t gd, Option.bind_some, p_copy (a := 33) (b := 37) rfl rfl rfl rfl a2, Option.bind_some, p_multiply (r := 37) rfl rfl (wr_v a2.1) (by omega), wr_wr, Option.bind_some, gc_t gi, Option.bind_some]
  show ((M_Wide_compare (67 + i) 37 (cpU u i x t b all)).bind _) = _
  rw [p_compare (gK_s hi) rfl gLen_s rfl v5 w5, Option.bind_some]
  show (if cmp (x * t) (all * b) < (0 : Int32) then some (cpU u i x t b all) else (gc (gIn (nI i) (gLen 31)) <| (some (67 + i)).bind fun r82 => (M_Wide_copy 33 r82 (cpU u i x t b all)).bind fun q83 => gc (gIn (nI i) (gLen 32)) <| (some (gsA q83 32 i (1 : Int32))).bind fun u92 => some u92)) = _
  rw [gc_t gi, Option.bind_some, p_copy (a := 33) rfl (gK_s hi) rfl gLen_s a5, Option.bind_some, gc_t gd, Option.bind_some]
theorem p_capped {u : gSt} {i c x all t b : Nat} (hi : i < 800) (hc : c < 200) (hx : Sl u c x 1) (hx2 : x ≤ 2 ^ 200) (hA : Wv u 33 all) (hA2 : all ≤ 2 ^ 200) (ht : t ≤ 200) (hb : b ≤ 200) (hb0 : 0 < b) : ∃ v, M_Ranking_setCapped (nI i) (nI c) (nI t) (nI b) u = some v ∧ FS u v i ∧ Sl v i (capN x all t b) (capD x all t b) := by
  have hxt : x * t ≤ 2 ^ 200 * 200 := Nat.mul_le_mul hx2 ht
  have hab : all * b ≤ 2 ^ 200 * 200 := Nat.mul_le_mul hA2 hb
  have f5 : FS u (cpU u i x t b all) i := FS_t (FS_t (FS_w (Or.inr (Or.inr rfl))) FS_d) (FS_w (Or.inr (Or.inl rfl)))
  rw [p_capM hi hc hx.1 hA hxt hab ht hb]
  unfold capN capD
  by_cases c1 : all * b ≤ x * t
  · rw [if_neg (by rw [cmp_neg]; omega), if_pos c1, if_pos c1]
    refine ⟨_, rfl, FS_t (FS_t f5 (FS_w (Or.inr (Or.inr rfl)))) FS_d, Wv_d (by omega) (wr_v hA.1), d_at, by decide, by decide, ?_⟩
    exact Nat.le_trans hA2 (by decide)
  · rw [if_pos (cmp_neg.mpr (by omega)), if_neg c1, if_neg c1]
    refine ⟨_, rfl, f5, wr_b (by omega) (Wv_d (by omega) (wr_v (lt89 hxt))), ?_, hb0, hb, hxt⟩
    unfold cpU
    rw [wr_32 (by decide)]
    exact d_at
theorem p_copyS {u : gSt} {i j a p : Nat} (hi : i < 800) (hj : j < 800) (h : Sl u i a p) : ∃ v, M_Ranking_copySlot (nI i) (nI j) u = some v ∧ FS u v j ∧ Sl v j a p := by
  obtain ⟨h1, h2, h3, h4, h5⟩ := h
  refine ⟨gsA (wr u (67 + j) a) 32 j (nI p), ?_, FS_t (FS_w (Or.inr (Or.inr rfl))) FS_d, Wv_d (by omega) (wr_v h1.1), d_at, h3, h4, h5⟩
  unfold M_Ranking_copySlot
  rw [gc_t (qi_in (n := gLen 31) (by omega) (show i < 800 from hi)), qi_ix (show i < 2147483648 by omega), gAR_s hi, Option.bind_some, gc_t (qi_in (n := gLen 31) (by omega) (show j < 800 from hj)), qi_ix (show j < 2147483648 by omega), gAR_s hj, Option.bind_some, p_copy (gK_s hi) (gK_s hj) gLen_s gLen_s h1, Option.bind_some, gc_t (qi_in (n := gLen 32) (by omega) (show i < 800 from hi)), gc_t (qi_in (n := gLen 32) (by omega) (show j < 800 from hj)), wr_32 (by omega), h2]
  rfl
/-- compareSlots as a whole -/
theorem p_cmpV {u : gSt} {i j a p b q : Nat} (hi : i < 800) (hj : j < 800) (h1 : Sl u i a p) (h2 : Sl u j b q) : ∃ v, M_Ranking_compareSlots (nI i) (nI j) u = some (cmpP a p b q, v) ∧ ∀ k, FS u v k := by
  obtain ⟨f, g, e⟩ := p_cmpS (u := u) (f := u.2.2.1 36) (g := u.2.2.1 37) hi hj h1 h2
  rw [sc_0] at e
  exact ⟨_, e, fun k => FS_sc⟩
/-! the chance of a candidate -/
theorem p_reckon {u : gSt} {c N n : Nat} {hh kk : Nat → Nat} (hc : c < 200) (h10 : u.1 27 10 = nI N) (h11 : u.1 27 11 = nI n) (hN : N ≤ 200) (hn : n ≤ N) (hh1 : ∀ k, k ≤ c → u.2.2.1 29 k = nI (hh k) ∧ u.2.2.1 30 k = nI (kk k) ∧ hh k ≤ kk k ∧ hh k ≤ n ∧ kk k ≤ N ∧ n - hh k ≤ N - kk k) (hs9 : ∀ k, k < c → Sl u k (hs N (kk k) n (hh k)) 1) : ∃ v, M_Ranking_reckonChance (nI c) u = some v ∧ FS u v c ∧ Sl v c (hs N (kk c) n (hh c)) 1 := by
  obtain ⟨c1, c2, c3, c4, c5, c6⟩ := hh1 c (Nat.le_refl _)
  have hle : hs N (kk c) n (hh c) ≤ 2 ^ 200 := Nat.le_trans (hs_le c5 c4) (Nat.le_trans (ch_two N n) (Nat.pow_le_pow_right (by decide) hN))
  have hle2 : hs N (kk c) n (hh c) ≤ 2 ^ 200 * 200 := Nat.le_trans hle (by decide)
  have hf : FS u (gsA u 32 c (nI 1)) c := FS_d
  have r29 : ∀ k, (gsA u 32 c (nI 1)).2.2.1 29 k = u.2.2.1 29 k := fun k => by rw [gsA_R, gsR_b (by decide)]
  have r30 : ∀ k, (gsA u 32 c (nI 1)).2.2.1 30 k = u.2.2.1 30 k := fun k => by rw [gsA_R, gsR_b (by decide)]
  have step : ∀ k, k < c → M_Ranking_reckonChance_L15 (nI c, nI c, nI k, gsA u 32 c (nI 1)) = if hh k = hh c ∧ kk k = kk c then some (.inr (.inr (nI c, nI k, gsA u 32 c (nI 1)))) else some (.inl (nI c, nI c, nI (k + 1), gsA u 32 c (nI 1))) := fun k hk => by
    obtain ⟨k1, k2, k3, k4, k5, k6⟩ := hh1 k (by omega)
    show M_Ranking_reckonChance_b15 (nI c) (nI c) (nI k) (gsA u 32 c (nI 1)) = _
    unfold M_Ranking_reckonChance_b15 M_Ranking_reckonChance_b70
    rw [if_neg (by rw [qi_le (by omega) (by omega)]; omega), gc_t (qi_in (n := gLen 29) (by omega) (show k < 200 by omega)), gc_t (qi_in (n := gLen 29) (by omega) (show c < 200 from hc)), qi_ix (show k < 2147483648 by omega), qi_ix (show c < 2147483648 by omega), r29, r29, k1, c1, gc_t (qi_in (n := gLen 30) (by omega) (show k < 200 by omega)), gc_t (qi_in (n := gLen 30) (by omega) (show c < 200 from hc)), r30, r30, k2, c2, show (1 : Int32) = nI 1 from rfl, qi_add]
    by_cases e1 : hh k = hh c
    · rw [if_pos (by rw [e1])]
      by_cases e2 : kk k = kk c
      · rw [if_pos (by rw [e2]), if_pos ⟨e1, e2⟩]
      · rw [if_neg (by rw [qi_eq (by omega) (by omega)]; exact e2), if_neg (fun h => e2 h.2)]
    · rw [if_neg (by rw [qi_eq (by omega) (by omega)]; exact e1), if_neg (fun h => e1 h.1)]
  have hun : M_Ranking_reckonChance (nI c) u = (gLp M_Ranking_reckonChance_L15 (nI c, nI c, nI 0, gsA u 32 c (nI 1))).bind fun y15 => (Sum.elim (fun y15_0 => gc (gIn y15_0.2.1 (gLen 31)) <| (gAR 31 (gIx y15_0.2.1)).bind fun r82 => gc (gIn y15_0.1 (gLen 30)) <| gc (gIn y15_0.1 (gLen 29)) <| (M_Ranking_sumWays r82 (y15_0.2.2.2.2.1 30 (gIx y15_0.1)) (y15_0.2.2.2.2.1 29 (gIx y15_0.1)) y15_0.2.2).bind fun q95 => some q95) (fun y15_1 => (M_Ranking_slot (0 : Int32) y15_1.2.1 y15_1.2.2).bind fun q56 => gc (gIn q56.1 (gLen 31)) <| (gAR 31 (gIx q56.1)).bind fun r59 => gc (gIn y15_1.1 (gLen 31)) <| (gAR 31 (gIx y15_1.1)).bind fun r65 => (M_Wide_copy r59 r65 q56.2).bind fun q66 => some q66)) y15 := by
    unfold M_Ranking_reckonChance
    rw [slot_0, Option.bind_some, gc_t (qi_in (n := gLen 32) (by omega) (show c < 800 by omega)), qi_ix (show c < 2147483648 by omega)]
    rfl
  by_cases hex : ∃ k, k < c ∧ (hh k = hh c ∧ kk k = kk c)
  · obtain ⟨k, hk, hk2, hk3⟩ := first_of (P := fun k => hh k = hh c ∧ kk k = kk c) c hex
    have key : gLp M_Ranking_reckonChance_L15 (nI c, nI c, nI 0, gsA u 32 c (nI 1)) = some (.inr (nI c, nI k, gsA u 32 c (nI 1))) := by
      refine lp_to (S := fun j => (nI c, nI c, nI j, gsA u 32 c (nI 1))) (k := 0) (N := k) (Nat.zero_le _) (fun j _ hj => ?_) ?_
      · show M_Ranking_reckonChance_L15 (nI c, nI c, nI j, gsA u 32 c (nI 1)) = _
        rw [step j (by omega), if_neg (hk3 j hj)]
      · show M_Ranking_reckonChance_L15 (nI c, nI c, nI k, gsA u 32 c (nI 1)) = _
        rw [step k hk, if_pos hk2]
    have sk := FS_l hf (show k ≠ c by omega) (hs9 k hk)
    refine ⟨wr (gsA u 32 c (nI 1)) (67 + c) (hs N (kk c) n (hh c)), ?_, FS_t hf (FS_w (Or.inr (Or.inr rfl))), wr_v (lt89 hle2), ?_, by decide, by decide, hle2⟩
    · rw [hun, key, Option.bind_some]
      show ((M_Ranking_slot (0 : Int32) (nI k) (gsA u 32 c (nI 1))).bind fun q56 => gc (gIn q56.1 (gLen 31)) <| (gAR 31 (gIx q56.1)).bind fun r59 => gc (gIn (nI c) (gLen 31)) <| (gAR 31 (gIx (nI c))).bind fun r65 => (M_Wide_copy r59 r65 q56.2).bind fun q66 => some q66) = _
      rw [slot_0, Option.bind_some, gc_t (qi_in (n := gLen 31) (by omega) (show k < 800 by omega)), qi_ix (show k < 2147483648 by omega), gAR_s (show k < 800 by omega), Option.bind_some]
      show (gc (gIn (nI c) (gLen 31)) <| (gAR 31 (gIx (nI c))).bind fun r65 => (M_Wide_copy (67 + k) r65 (gsA u 32 c (nI 1))).bind fun q66 => some q66) = _
      rw [gc_t (qi_in (n := gLen 31) (by omega) (show c < 800 by omega)), qi_ix (show c < 2147483648 by omega), gAR_s (show c < 800 by omega), Option.bind_some, p_copy (gK_s (by omega)) (gK_s (by omega)) gLen_s gLen_s sk.1, hk2.1, hk2.2]
      rfl
    · rw [wr_32 (by omega)]
      exact d_at
  · have key : gLp M_Ranking_reckonChance_L15 (nI c, nI c, nI 0, gsA u 32 c (nI 1)) = some (.inl (nI c, nI c, gsA u 32 c (nI 1))) := by
      refine lp_to (S := fun j => (nI c, nI c, nI j, gsA u 32 c (nI 1))) (k := 0) (N := c) (Nat.zero_le _) (fun j _ hj => ?_) ?_
      · show M_Ranking_reckonChance_L15 (nI c, nI c, nI j, gsA u 32 c (nI 1)) = _
        rw [step j hj, if_neg (fun h => hex ⟨j, hj, h⟩)]
      · show M_Ranking_reckonChance_b15 (nI c) (nI c) (nI c) (gsA u 32 c (nI 1)) = _
        unfold M_Ranking_reckonChance_b15
        rw [if_pos ((qi_le (by omega) (by omega)).mpr (Nat.le_refl _))]
    obtain ⟨y, e⟩ := p_sumWays (u := gsA u 32 c (nI 1)) (r := 67 + c) (N := N) (K := kk c) (n := n) (h := hh c) (by omega) (gK_s (by omega)) gLen_s h10 h11 hN c5 hn c3 c4 c6
    refine ⟨_, ?_, FS_t hf (FS_t (FS_w (r := 36) (v := y) (Or.inl rfl)) (FS_w (r := 67 + c) (v := hs N (kk c) n (hh c)) (Or.inr (Or.inr rfl)))), wr_v (lt89 hle2), ?_, by decide, by decide, hle2⟩
    · rw [hun, key, Option.bind_some]
      show (gc (gIn (nI c) (gLen 31)) <| (gAR 31 (gIx (nI c))).bind fun r82 => gc (gIn (nI c) (gLen 30)) <| gc (gIn (nI c) (gLen 29)) <| (M_Ranking_sumWays r82 ((gsA u 32 c (nI 1)).2.2.1 30 (gIx (nI c))) ((gsA u 32 c (nI 1)).2.2.1 29 (gIx (nI c))) (gsA u 32 c (nI 1))).bind fun q95 => some q95) = _
      rw [gc_t (qi_in (n := gLen 31) (by omega) (show c < 800 by omega)), qi_ix (show c < 2147483648 by omega), gAR_s (show c < 800 by omega), Option.bind_some, gc_t (qi_in (n := gLen 30) (by omega) (show c < 200 from hc)), gc_t (qi_in (n := gLen 29) (by omega) (show c < 200 from hc)), r29, r30, c1, c2, e]
      rfl
    · rw [wr_32 (by omega), wr_32 (by decide)]
      exact d_at
