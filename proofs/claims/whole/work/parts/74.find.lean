/-! A word as two numbers; whose name it is, on both sides. -/
/-- the letter first + k of the word from b to w, or 0 -/
def dg (T : Nat → Int32) (b w first k : Nat) : Nat := if first + k < w - b then (T (b + (first + k))).toInt.toNat else 0
theorem g_shl8 {a : Nat} (ha : a < 2 ^ 56) : lN a <<< ((8 : Int32).toInt64 &&& (63 : Int64)) = lN (a * 256) := by
  apply Int64.toBitVec_inj.mp
  have hy : ((8 : Int32).toInt64 &&& (63 : Int64)).toBitVec.smod 64 = BitVec.ofNat 64 8 := by decide
  rw [Int64.toBitVec_shiftLeft, hy]
  apply BitVec.eq_of_toNat_eq
  have hb : (lN a).toBitVec.toNat = a := Nat.mod_eq_of_lt (by omega)
  have hk' : (BitVec.ofNat 64 8).toNat = 8 := by decide
  have h : ((lN a).toBitVec <<< BitVec.ofNat 64 8).toNat = (a * 2 ^ 8) % 2 ^ 64 := by simp only [BitVec.shiftLeft_eq', BitVec.toNat_shiftLeft, hb, hk', Nat.shiftLeft_eq]
  exact h
theorem u_tn {n : Nat} (h : n < 2 ^ 64) : (UInt64.ofNat n).toNat = n := Nat.mod_eq_of_lt h
theorem g_or {k p a b : Nat} (hp : 2 ^ k = p) (ha : a < p) (h : b * p + a < 2 ^ 64) : lN (b * p) ||| lN a = lN (b * p + a) := by
  subst hp
  have h1 : b * 2 ^ k ||| a = b * 2 ^ k + a := by rw [← Nat.shiftLeft_eq, Nat.shiftLeft_add_eq_or_of_lt ha]
  have h3 : UInt64.ofNat (b * 2 ^ k) ||| UInt64.ofNat a = UInt64.ofNat (b * 2 ^ k + a) := UInt64.toNat_inj.mp (by rw [UInt64.toNat_or, u_tn (by omega), u_tn (by omega), u_tn h, h1])
  have h2 := congrArg UInt64.toInt64 h3
  exact h2
theorem g_or8 {a b : Nat} (ha : a < 256) (h : b * 256 + a < 2 ^ 64) : lN (b * 256) ||| lN a = lN (256 * b + a) := by
  rw [g_or (k := 8) (p := 256) rfl ha h, Nat.mul_comm]
theorem pv_lt {d : Nat → Nat} (h : ∀ k, d k < 256) : ∀ j, pv d j < 256 ^ j
  | 0 => Nat.pow_pos (by decide)
  | j + 1 => by
    have h1 := pv_lt h j
    have h2 := h j
    show 256 * pv d j + d j < 256 ^ j * 256
    omega
theorem dg_lt {T : Nat → Int32} {b w first k : Nat} (ha : al T (w - b) b = true) : dg T b w first k < 123 := by
  unfold dg
  split
  · rename_i h
    obtain ⟨z, hz, h1, h2⟩ := isL_r (al_at _ _ ha _ h)
    rw [hz, nI_toInt (by omega)]
    omega
  · decide
theorem p_half {T : Nat → Int32} {u : gSt} {l b w first : Nat} (hT : tD u T l) (hb : u.1 2 4 = nI b) (hw : u.1 2 5 = nI w) (hl : w ≤ l) (h : b < w) (ha : al T (w - b) b = true) (hf : first ≤ 6) : M_Text_wordHalf (nI first) u = some (lN (pv (dg T b w first) 6), u) := by
  have h4 := hT.1
  have hd : ∀ k, dg T b w first k < 256 := fun k => Nat.lt_trans (dg_lt ha) (by decide)
  have key : gLp M_Text_wordHalf_L5 (nI first, lN (pv (dg T b w first) 0), nI (first + 0), u) = some (lN (pv (dg T b w first) 6), u) := by
    refine lp_to (S := fun j => (nI first, lN (pv (dg T b w first) j), nI (first + j), u)) (k := 0) (N := 6) (Nat.zero_le _) (fun j _ hj => ?_) ?_
    · show M_Text_wordHalf_b5 (nI first) (lN (pv (dg T b w first) j)) (nI (first + j)) u = some (Sum.inl (nI first, lN (256 * pv (dg T b w first) j + dg T b w first j), nI (first + (j + 1)), u))
      have hp := pv_lt hd j
      have hp2 : pv (dg T b w first) j < 2 ^ 48 := Nat.lt_of_lt_of_le hp (by
        have : 256 ^ j ≤ 256 ^ 6 := Nat.pow_le_pow_right (by decide) (by omega)
        omega)
      have hdj := hd j
      unfold M_Text_wordHalf_b5 M_Text_wordHalf_b43 M_Text_wordLength
      rw [show (6 : Int32) = nI 6 from rfl, qi_add, if_neg (by rw [qi_le (by omega) (by omega)]; omega), Option.bind_some, hb, hw, qi_sub (by omega) (by omega), g_shl8 (by omega)]
      show (if nI (w - b) ≤ nI (first + j) then some (Sum.inl (nI first, lN (pv (dg T b w first) j * 256) ||| lN 0, nI (first + j) + nI 1, u)) else gc (gIn (nI b + nI (first + j)) (gLen 3)) (some (Sum.inl (nI first, lN (pv (dg T b w first) j * 256) ||| (u.2.2.1 3 (gIx (nI b + nI (first + j)))).toInt64, nI (first + j) + nI 1, u)))) = _
      rw [qi_add, qi_add]
      by_cases c : w - b ≤ first + j
      · have e0 : dg T b w first j = 0 := if_neg (by omega)
        rw [if_pos ((qi_le (by omega) (by omega)).mpr c), g_or8 (by decide) (by omega), e0]
        rfl
      · have e0 : dg T b w first j = (T (b + (first + j))).toInt.toNat := if_pos (by omega)
        obtain ⟨z, hz, z1, z2⟩ := isL_r (al_at _ _ ha (first + j) (by omega))
        rw [hz, nI_toInt (by omega)] at e0
        have e1 : dg T b w first j = z := by omega
        rw [if_neg (by rw [qi_le (by omega) (by omega)]; exact c), gc_t (qi_in (n := gLen 3) (by omega) (show b + (first + j) < 40000 by omega)), qi_ix (by omega), hT.2.2 _ (by omega), hz, nI_l (by omega), g_or8 (by omega) (by omega), e1]
        rfl
    · show M_Text_wordHalf_b5 (nI first) (lN (pv (dg T b w first) 6)) (nI (first + 6)) u = _
      unfold M_Text_wordHalf_b5
      rw [show (6 : Int32) = nI 6 from rfl, qi_add, if_pos ((qi_le (by omega) (by omega)).mpr (Nat.le_refl _))]
  have key2 : gLp M_Text_wordHalf_L5 (nI first, (0 : Int64), nI first, u) = some (lN (pv (dg T b w first) 6), u) := key
  unfold M_Text_wordHalf
  rw [key2]
  rfl
/-- the word from b to w is the name i -/
def mt (N : NS) (T : Nat → Int32) (b w i : Nat) : Prop := n_z N i = w - b ∧ ∀ k, k < w - b → T (b + k) = nI (n_l N i k)
/-- whose name it is -/
def Fo (N : NS) (T : Nat → Int32) (b w : Nat) (r : Int32) : Prop := (r = -1 ∧ ∀ i, i < n_c N → ¬ mt N T b w i) ∨ ∃ i, i < n_c N ∧ mt N T b w i ∧ (∀ j, j < i → ¬ mt N T b w j) ∧ r = nI (n_o N i)
theorem fo_ex (N : NS) (T : Nat → Int32) (b w : Nat) : ∃ r, Fo N T b w r := by
  by_cases h : ∃ i, i < n_c N ∧ mt N T b w i
  · have hd : ∀ k, Decidable (mt N T b w k) := fun k => Classical.propDecidable _
    obtain ⟨i, h1, h2, h3⟩ := first_of (P := mt N T b w) (n_c N) h
    exact ⟨_, Or.inr ⟨i, h1, h2, h3, rfl⟩⟩
  · exact ⟨-1, Or.inl ⟨rfl, fun i hi hm => h ⟨i, hi, hm⟩⟩⟩
theorem pv_inj {d d' : Nat → Nat} (h : ∀ k, k < 6 → d k < 256) (h' : ∀ k, k < 6 → d' k < 256) : (lN (pv d 6) = lN (pv d' 6)) ↔ ∀ k, k < 6 → d k = d' k := by
  obtain ⟨a1, a2⟩ := pv_6 h
  obtain ⟨b1, b2⟩ := pv_6 h'
  constructor
  · intro e k hk
    have e1 := congrArg Int64.toInt e
    rw [pf_lI (by omega), pf_lI (by omega)] at e1
    have e2 : pv d 6 = pv d' 6 := by omega
    rw [← a2 k hk, ← b2 k hk, e2]
  · intro e
    show lN (256 * (256 * (256 * (256 * (256 * (256 * 0 + d 0) + d 1) + d 2) + d 3) + d 4) + d 5) = lN (256 * (256 * (256 * (256 * (256 * (256 * 0 + d' 0) + d' 1) + d' 2) + d' 3) + d' 4) + d' 5)
    rw [e 0 (by decide), e 1 (by decide), e 2 (by decide), e 3 (by decide), e 4 (by decide), e 5 (by decide)]
theorem lg_eq {x y : Int64} : (lg_cmp x y = 0) ↔ x = y := by
  unfold lg_cmp
  constructor
  · intro h
    by_cases h1 : x > y
    · rw [if_pos h1] at h
      exact absurd h (by decide)
    · rw [if_neg h1] at h
      by_cases h2 : x = y
      · exact h2
      · rw [if_neg h2] at h
        exact absurd h (by decide)
  · intro h
    subst h
    rw [if_neg (by rw [gt_iff_lt, Int64.lt_iff_toInt_lt]; omega), if_pos rfl]
theorem mt_iff {N : NS} {T : Nat → Int32} {b w i t : Nat} (hN : Gn N t) (hi : i < n_c N) (hn : nm T b w = true) (h : b < w) : (lN (pv (nd N i 0) 6) = lN (pv (dg T b w 0) 6) ∧ lN (pv (nd N i 6) 6) = lN (pv (dg T b w 6) 6)) ↔ mt N T b w i := by
  unfold nm at hn
  rw [Bool.and_eq_true] at hn
  have h12 := of_decide_eq_true hn.1
  have ha := hn.2
  obtain ⟨z1, z2, z3, z4⟩ := hN.1 i hi
  have n1 : ∀ first k, k < 6 → nd N i first k < 256 := fun first k _ => Nat.lt_trans (nd_lt hN hi) (by decide)
  have d1 : ∀ first k, k < 6 → dg T b w first k < 256 := fun first k _ => Nat.lt_trans (dg_lt ha) (by decide)
  rw [pv_inj (n1 0) (d1 0), pv_inj (n1 6) (d1 6)]
  have hT : ∀ k, k < w - b → ∃ z : Nat, T (b + k) = nI z ∧ 48 ≤ z ∧ z < 123 := fun k hk => isL_r (al_at _ _ ha k hk)
  constructor
  · rintro ⟨e1, e2⟩
    have e : ∀ k, k < 12 → (if k < n_z N i then n_l N i k else 0) = if k < w - b then (T (b + k)).toInt.toNat else 0 := fun k hk => by
      by_cases c : k < 6
      · have := e1 k c
        unfold nd dg at this
        rw [Nat.zero_add] at this
        exact this
      · have := e2 (k - 6) (by omega)
        unfold nd dg at this
        rw [show 6 + (k - 6) = k by omega] at this
        exact this
    have hz : n_z N i = w - b := by
      rcases Nat.lt_trichotomy (n_z N i) (w - b) with c | c | c
      · have e3 := e (n_z N i) (by omega)
        rw [if_neg (by omega), if_pos c] at e3
        obtain ⟨z, hz, y1, y2⟩ := hT (n_z N i) c
        rw [hz, nI_toInt (by omega)] at e3
        omega
      · exact c
      · have e3 := e (w - b) (by omega)
        rw [if_pos c, if_neg (by omega)] at e3
        have := (z4 (w - b) c).1
        omega
    refine ⟨hz, fun k hk => ?_⟩
    have e3 := e k (by omega)
    rw [if_pos (by omega), if_pos hk] at e3
    obtain ⟨z, hz9, y1, y2⟩ := hT k hk
    rw [hz9, nI_toInt (by omega)] at e3
    rw [hz9, e3]
    congr 1
  · rintro ⟨hz, hl⟩
    have e : ∀ first k, nd N i first k = dg T b w first k := fun first k => by
      unfold nd dg
      rw [hz]
      by_cases c : first + k < w - b
      · rw [if_pos c, if_pos c, hl _ c]
        have := (z4 (first + k) (by omega)).2
        rw [nI_toInt (by omega)]
        omega
      · rw [if_neg c, if_neg c]
    exact ⟨fun k _ => e 0 k, fun k _ => e 6 k⟩
theorem p_ownerOf {a r0 r1 r2 t b w : Nat} {u : gSt} {N : NS} {T : Nat → Int32} {r : Int32} (ka : gK a = 4) (f0 : gFR a 0 = some r0) (f1 : gFR a 1 = some r1) (f2 : gFR a 2 = some r2) (k0' : gK r0 = 24) (k1' : gK r1 = 24) (k2' : gK r2 = 22) (hN : Gn N t) (hd : Dn u a r0 r1 r2 N) (hc : n_c N ≤ 300) (hl0 : n_c N ≤ gLen r0) (hl1 : n_c N ≤ gLen r1) (hl2 : n_c N ≤ gLen r2) (hn : nm T b w = true) (hbw : b < w) (hF : Fo N T b w r) : M_NameList_ownerOf a (lN (pv (dg T b w 0) 6)) (lN (pv (dg T b w 6) 6)) u = some (r, u) := by
  have g1 : (gK a == 4) = true := by rw [ka]; rfl
  have g2 : (gK r0 == 24) = true := by rw [k0']; rfl
  have g3 : (gK r1 == 24) = true := by rw [k1']; rfl
  have g4 : (gK r2 == 22) = true := by rw [k2']; rfl
  obtain ⟨hd1, hd2⟩ := hd
  have step : ∀ i, i < n_c N → M_NameList_ownerOf_L3 (a, lN (pv (dg T b w 0) 6), lN (pv (dg T b w 6) 6), nI i, u) = @ite _ (mt N T b w i) (Classical.propDecidable _) (some (.inr (.inr (a, nI i, u)))) (some (.inl (a, lN (pv (dg T b w 0) 6), lN (pv (dg T b w 6) 6), nI (i + 1), u))) := fun i hi => by
    show M_NameList_ownerOf_b3 a (lN (pv (dg T b w 0) 6)) (lN (pv (dg T b w 6) 6)) (nI i) u = _
    have hm := mt_iff hN hi hn hbw
    unfold M_NameList_ownerOf_b3 M_NameList_ownerOf_b44
    rw [gc_t g1, hd1, if_neg (by rw [qi_le (by omega) (by omega)]; omega), gc_t g1, f0, Option.bind_some, gc_t g2, gc_t (qi_in (by omega) (by omega)), qi_ix (by omega), (hd2 i hi).1, gc_t g1, f1, Option.bind_some, gc_t g3, gc_t (qi_in (by omega) (by omega)), (hd2 i hi).2.1]
    by_cases c1 : lN (pv (nd N i 0) 6) = lN (pv (dg T b w 0) 6)
    · rw [if_pos (lg_eq.mpr c1)]
      by_cases c2 : lN (pv (nd N i 6) 6) = lN (pv (dg T b w 6) 6)
      · rw [if_pos (lg_eq.mpr c2), if_pos (hm.mp ⟨c1, c2⟩)]
      · rw [if_neg (fun h => c2 (lg_eq.mp h)), if_neg (fun h => c2 (hm.mpr h).2)]
        show some (Sum.inl (a, _, _, nI i + nI 1, u)) = _
        rw [qi_add]
    · rw [if_neg (fun h => c1 (lg_eq.mp h)), if_neg (fun h => c1 (hm.mpr h).1)]
      show some (Sum.inl (a, _, _, nI i + nI 1, u)) = _
      rw [qi_add]
  unfold M_NameList_ownerOf
  rcases hF with ⟨rfl, hno⟩ | ⟨i, hi, hm, hb, rfl⟩
  · have key : gLp M_NameList_ownerOf_L3 (a, lN (pv (dg T b w 0) 6), lN (pv (dg T b w 6) 6), nI 0, u) = some (.inl u) := by
      refine lp_to (S := fun i => (a, lN (pv (dg T b w 0) 6), lN (pv (dg T b w 6) 6), nI i, u)) (k := 0) (N := n_c N) (Nat.zero_le _) (fun j _ hj => ?_) ?_
      · show M_NameList_ownerOf_L3 (a, lN (pv (dg T b w 0) 6), lN (pv (dg T b w 6) 6), nI j, u) = _
        rw [step j hj, if_neg (hno j hj)]
      · show M_NameList_ownerOf_b3 a (lN (pv (dg T b w 0) 6)) (lN (pv (dg T b w 6) 6)) (nI (n_c N)) u = _
        unfold M_NameList_ownerOf_b3
        rw [gc_t g1, hd1, if_pos ((qi_le (by omega) (by omega)).mpr (Nat.le_refl _))]
    have key2 : gLp M_NameList_ownerOf_L3 (a, lN (pv (dg T b w 0) 6), lN (pv (dg T b w 6) 6), (0 : Int32), u) = some (.inl u) := key
    rw [key2]
    rfl
  · have key : gLp M_NameList_ownerOf_L3 (a, lN (pv (dg T b w 0) 6), lN (pv (dg T b w 6) 6), nI 0, u) = some (.inr (a, nI i, u)) := by
      refine lp_to (S := fun i => (a, lN (pv (dg T b w 0) 6), lN (pv (dg T b w 6) 6), nI i, u)) (k := 0) (N := i) (Nat.zero_le _) (fun j _ hj => ?_) ?_
      · show M_NameList_ownerOf_L3 (a, lN (pv (dg T b w 0) 6), lN (pv (dg T b w 6) 6), nI j, u) = _
        rw [step j (by omega), if_neg (hb j hj)]
      · show M_NameList_ownerOf_L3 (a, lN (pv (dg T b w 0) 6), lN (pv (dg T b w 6) 6), nI i, u) = _
        rw [step i hi, if_pos hm]
    have key2 : gLp M_NameList_ownerOf_L3 (a, lN (pv (dg T b w 0) 6), lN (pv (dg T b w 6) 6), (0 : Int32), u) = some (.inr (a, nI i, u)) := key
    rw [key2, Option.bind_some]
    show (gc (gK a == 4) <| (gFR a 2).bind fun r37 => gc (gK r37 == 22) <| gc (gIn (nI i) (gLen r37)) <| some (u.2.2.1 r37 (gIx (nI i)), u)) = _
    rw [gc_t g1, f2, Option.bind_some, gc_t g4, gc_t (qi_in (by omega) (by omega)), qi_ix (by omega), (hd2 i hi).2.2]
/-! the model's search -/
theorem p_isWordL {u : gSt} {N : NS} {T : Nat → Int32} {ls i b l z : Nat} (h20 : gK ls = 20) (hl : 12 * i + 12 ≤ gLen ls) (hi : i < 300) (hz : z ≤ 12) (hT : tM u T l) (hb : u.1 42 22 = nI b) (hbz : b + z ≤ l) (hL : ∀ k, k < z → u.2.2.1 ls (12 * i + k) = nI (n_l N i k)) : ∀ (d k : Nat) (fl : Bool), k + d = z → ∃ fl' : Bool, gLp M_Model_isWord_L23 (ls, nI (12 * i), nI z, b2i fl, nI k, u) = some (b2i fl', u) ∧ (fl' = true ↔ fl = true ∧ ∀ j, k ≤ j → j < z → T (b + j) = nI (n_l N i j))
  | 0, k, fl, h => by
    have h4 := hT.1
    refine ⟨fl, gLp_done ?_, ⟨fun e => ⟨e, fun j h1 h2 => by omega⟩, fun e => e.1⟩⟩
    show M_Model_isWord_b23 ls (nI (12 * i)) (nI z) (b2i fl) (nI k) u = _
    unfold M_Model_isWord_b23
    rw [if_pos ((qi_le (by omega) (by omega)).mpr (by omega))]
  | d + 1, k, false, h => by
    have h4 := hT.1
    refine ⟨false, gLp_done ?_, ⟨fun e => (by cases e), fun e => e.1⟩⟩
    show M_Model_isWord_b23 ls (nI (12 * i)) (nI z) (b2i false) (nI k) u = _
    unfold M_Model_isWord_b23
    rw [if_neg (by rw [qi_le (by omega) (by omega)]; omega), if_pos (show b2i false = 0 from rfl)]
  | d + 1, k, true, h => by
    have h4 := hT.1
    have g1 : (gK ls == 20) = true := by rw [h20]; rfl
    have hs : ∃ f2 : Bool, M_Model_isWord_L23 (ls, nI (12 * i), nI z, b2i true, nI k, u) = some (.inl (ls, nI (12 * i), nI z, b2i f2, nI (k + 1), u)) ∧ (f2 = true ↔ T (b + k) = nI (n_l N i k)) := by
      by_cases c : T (b + k) = nI (n_l N i k)
      · refine ⟨true, ?_, ⟨fun _ => c, fun _ => rfl⟩⟩
        show M_Model_isWord_b23 ls (nI (12 * i)) (nI z) (b2i true) (nI k) u = _
        unfold M_Model_isWord_b23 M_Model_isWord_b60
        rw [if_neg (by rw [qi_le (by omega) (by omega)]; omega), if_neg (show ¬ b2i true = 0 by decide), gc_t g1, qi_add, gc_t (qi_in (by omega) (by omega)), hb, qi_add, gc_t (qi_in (n := gLen 43) (by omega) (show b + k < 40000 by omega)), qi_ix (by omega), qi_ix (by omega), hL k (by omega), hT.2.2 (b + k) (by omega), if_pos c.symm]
        show some (Sum.inl (ls, nI (12 * i), nI z, _, nI k + nI 1, u)) = _
        rw [qi_add]
        rfl
      · refine ⟨false, ?_, ⟨fun e => (by cases e), fun e => absurd e c⟩⟩
        show M_Model_isWord_b23 ls (nI (12 * i)) (nI z) (b2i true) (nI k) u = _
        unfold M_Model_isWord_b23 M_Model_isWord_b60
        rw [if_neg (by rw [qi_le (by omega) (by omega)]; omega), if_neg (show ¬ b2i true = 0 by decide), gc_t g1, qi_add, gc_t (qi_in (by omega) (by omega)), hb, qi_add, gc_t (qi_in (n := gLen 43) (by omega) (show b + k < 40000 by omega)), qi_ix (by omega), qi_ix (by omega), hL k (by omega), hT.2.2 (b + k) (by omega), if_neg (fun e => c e.symm)]
        show some (Sum.inl (ls, nI (12 * i), nI z, _, nI k + nI 1, u)) = _
        rw [qi_add]
        rfl
    obtain ⟨f2, e2, h2⟩ := hs
    obtain ⟨f3, e3, h3⟩ := p_isWordL h20 hl hi hz hT hb hbz hL d (k + 1) f2 (by omega)
    refine ⟨f3, by rw [gLp_next e2]; exact e3, ?_⟩
    rw [h3, h2]
    constructor
    · rintro ⟨c1, c2⟩
      refine ⟨rfl, fun j h5 h6 => ?_⟩
      by_cases e : j = k
      · subst e
        exact c1
      · exact c2 j (by omega) h6
    · rintro ⟨-, c2⟩
      exact ⟨c2 k (Nat.le_refl _) (by omega), fun j h5 h6 => c2 j (by omega) h6⟩
theorem p_isWord {u : gSt} {N : NS} {T : Nat → Int32} {ls i b w l t : Nat} (h20 : gK ls = 20) (hl : 12 * i + 12 ≤ gLen ls) (hi : i < 300) (hic : i < n_c N) (hN : Gn N t) (hT : tM u T l) (hb : u.1 42 22 = nI b) (hw : u.1 42 23 = nI w) (hbw : b < w) (hwl : w ≤ l) (hL : ∀ k, k < n_z N i → u.2.2.1 ls (12 * i + k) = nI (n_l N i k)) : ∃ fl : Bool, M_Model_isWord ls (nI (12 * i)) (nI (n_z N i)) u = some (b2i fl, u) ∧ (fl = true ↔ mt N T b w i) := by
  have h4 := hT.1
  obtain ⟨z1, z2, z3, z4⟩ := hN.1 i hic
  unfold M_Model_isWord M_Model_isWord_b18
  rw [hb, hw, qi_sub (by omega) (by omega)]
  by_cases c : n_z N i = w - b
  · obtain ⟨fl, e, h⟩ := p_isWordL (T := T) (N := N) h20 hl hi (z := n_z N i) z2 hT hb (by omega) hL (n_z N i) 0 true (by omega)
    refine ⟨fl, ?_, ?_⟩
    · rw [if_pos (by rw [c])]
      show (gLp M_Model_isWord_L23 (ls, nI (12 * i), nI (n_z N i), b2i true, nI 0, u)).bind _ = _
      rw [e, Option.bind_some]
      exact gc_t b2i_z
    · rw [h]
      constructor
      · rintro ⟨-, c2⟩
        exact ⟨c, fun k hk => c2 k (Nat.zero_le _) (by omega)⟩
      · rintro ⟨-, c2⟩
        exact ⟨rfl, fun k _ hk => c2 k (by omega)⟩
  · refine ⟨false, ?_, ⟨fun e => (by cases e), fun e => absurd e.1 c⟩⟩
    rw [if_neg (by rw [qi_eq (by omega) (by omega)]; exact c)]
    have e : gLp M_Model_isWord_L23 (ls, nI (12 * i), nI (n_z N i), (0 : Int32), (0 : Int32), u) = some ((0 : Int32), u) := by
      refine gLp_done ?_
      show M_Model_isWord_b23 ls (nI (12 * i)) (nI (n_z N i)) 0 (nI 0) u = _
      unfold M_Model_isWord_b23
      rw [if_neg (by rw [qi_le (by omega) (by omega)]; omega), if_pos rfl]
    rw [e]
    rfl
theorem p_termOf {u : gSt} {N : NS} {T : Nat → Int32} {b w l t : Nat} {r : Int32} (hc : n_c N ≤ 300) (hN : Gn N t) (hM : Mn u 7 45 44 N) (ho : ∀ i, i < n_c N → u.2.2.1 46 i = nI (n_o N i)) (hT : tM u T l) (hb : u.1 42 22 = nI b) (hw : u.1 42 23 = nI w) (hbw : b < w) (hwl : w ≤ l) (hF : Fo N T b w r) : M_Model_termOf u = some (r, u) := by
  have step : ∀ i, i < n_c N → ∃ fl : Bool, M_Model_termOf_L2 (nI i, u) = (if fl = true then some (.inr (.inr (nI i, u))) else some (.inl (nI (i + 1), u))) ∧ (fl = true ↔ mt N T b w i) := fun i hi => by
    obtain ⟨q1, q2⟩ := hM.2 i hi
    obtain ⟨fl, e, h⟩ := p_isWord (ls := 44) rfl (show 12 * i + 12 ≤ 3600 by omega) (by omega) hi hN hT hb hw hbw hwl q2
    refine ⟨fl, ?_, h⟩
    show M_Model_termOf_b2 (nI i) u = _
    unfold M_Model_termOf_b2
    rw [hM.1, if_neg (by rw [qi_le (by omega) (by omega)]; omega), gc_t (qi_in (n := gLen 45) (by omega) (show i < 300 by omega)), qi_ix (by omega), q1, show (12 : Int32) = nI 12 from rfl, qi_mul, e, Option.bind_some]
    cases fl with
    | true => rfl
    | false =>
      show some (Sum.inl (nI i + nI 1, u)) = _
      rw [qi_add]
      rfl
  unfold M_Model_termOf
  rcases hF with ⟨rfl, hno⟩ | ⟨i, hi, hm, hb2, rfl⟩
  · have key : gLp M_Model_termOf_L2 (nI 0, u) = some (.inl u) := by
      refine lp_to (S := fun i => (nI i, u)) (k := 0) (N := n_c N) (Nat.zero_le _) (fun j _ hj => ?_) ?_
      · obtain ⟨fl, e, h⟩ := step j hj
        show M_Model_termOf_L2 (nI j, u) = _
        rw [e, if_neg (fun h9 => hno j hj (h.mp h9))]
      · show M_Model_termOf_b2 (nI (n_c N)) u = _
        unfold M_Model_termOf_b2
        rw [hM.1, if_pos ((qi_le (by omega) (by omega)).mpr (Nat.le_refl _))]
    have key2 : gLp M_Model_termOf_L2 ((0 : Int32), u) = some (.inl u) := key
    rw [key2]
    rfl
  · have key : gLp M_Model_termOf_L2 (nI 0, u) = some (.inr (nI i, u)) := by
      refine lp_to (S := fun i => (nI i, u)) (k := 0) (N := i) (Nat.zero_le _) (fun j _ hj => ?_) ?_
      · obtain ⟨fl, e, h⟩ := step j (by omega)
        show M_Model_termOf_L2 (nI j, u) = _
        rw [e, if_neg (fun h9 => hb2 j hj (h.mp h9))]
      · obtain ⟨fl, e, h⟩ := step i hi
        show M_Model_termOf_L2 (nI i, u) = _
        rw [e, if_pos (h.mpr hm)]
    have key2 : gLp M_Model_termOf_L2 ((0 : Int32), u) = some (.inr (nI i, u)) := key
    rw [key2, Option.bind_some]
    show (gc (gIn (nI i) (gLen 46)) <| some (u.2.2.1 46 (gIx (nI i)), u)) = _
    rw [gc_t (qi_in (n := gLen 46) (by omega) (show i < 300 by omega)), qi_ix (by omega), ho i hi]
theorem p_geneOf {u : gSt} {N : NS} {T : Nat → Int32} {b w l t : Nat} {r : Int32} (hc : n_c N ≤ 200) (hN : Gn N t) (hM : Mn u 10 48 47 N) (ho : ∀ i, i < n_c N → n_o N i = i) (hT : tM u T l) (hb : u.1 42 22 = nI b) (hw : u.1 42 23 = nI w) (hbw : b < w) (hwl : w ≤ l) (hF : Fo N T b w r) : M_Model_geneOf u = some (r, u) := by
  have step : ∀ i, i < n_c N → ∃ fl : Bool, M_Model_geneOf_L2 (nI i, u) = (if fl = true then some (.inr (.inr (nI i, u))) else some (.inl (nI (i + 1), u))) ∧ (fl = true ↔ mt N T b w i) := fun i hi => by
    obtain ⟨q1, q2⟩ := hM.2 i hi
    obtain ⟨fl, e, h⟩ := p_isWord (ls := 47) rfl (show 12 * i + 12 ≤ 2400 by omega) (by omega) hi hN hT hb hw hbw hwl q2
    refine ⟨fl, ?_, h⟩
    show M_Model_geneOf_b2 (nI i) u = _
    unfold M_Model_geneOf_b2
    rw [hM.1, if_neg (by rw [qi_le (by omega) (by omega)]; omega), gc_t (qi_in (n := gLen 48) (by omega) (show i < 200 by omega)), qi_ix (by omega), q1, show (12 : Int32) = nI 12 from rfl, qi_mul, e, Option.bind_some]
    cases fl with
    | true => rfl
    | false =>
      show some (Sum.inl (nI i + nI 1, u)) = _
      rw [qi_add]
      rfl
  unfold M_Model_geneOf
  rcases hF with ⟨rfl, hno⟩ | ⟨i, hi, hm, hb2, rfl⟩
  · have key : gLp M_Model_geneOf_L2 (nI 0, u) = some (.inl u) := by
      refine lp_to (S := fun i => (nI i, u)) (k := 0) (N := n_c N) (Nat.zero_le _) (fun j _ hj => ?_) ?_
      · obtain ⟨fl, e, h⟩ := step j hj
        show M_Model_geneOf_L2 (nI j, u) = _
        rw [e, if_neg (fun h9 => hno j hj (h.mp h9))]
      · show M_Model_geneOf_b2 (nI (n_c N)) u = _
        unfold M_Model_geneOf_b2
        rw [hM.1, if_pos ((qi_le (by omega) (by omega)).mpr (Nat.le_refl _))]
    have key2 : gLp M_Model_geneOf_L2 ((0 : Int32), u) = some (.inl u) := key
    rw [key2]
    rfl
  · have key : gLp M_Model_geneOf_L2 (nI 0, u) = some (.inr (nI i, u)) := by
      refine lp_to (S := fun i => (nI i, u)) (k := 0) (N := i) (Nat.zero_le _) (fun j _ hj => ?_) ?_
      · obtain ⟨fl, e, h⟩ := step j (by omega)
        show M_Model_geneOf_L2 (nI j, u) = _
        rw [e, if_neg (fun h9 => hb2 j hj (h.mp h9))]
      · obtain ⟨fl, e, h⟩ := step i hi
        show M_Model_geneOf_L2 (nI i, u) = _
        rw [e, if_pos (h.mpr hm)]
    have key2 : gLp M_Model_geneOf_L2 ((0 : Int32), u) = some (.inr (nI i, u)) := key
    rw [key2, ho i hi]
    rfl
