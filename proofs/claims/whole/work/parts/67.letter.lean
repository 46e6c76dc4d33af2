/-! Names; the law's case 6: letter. -/
theorem pf_lI {a : Nat} (h : a < 2 ^ 63) : (lN a).toInt = (a : Int) := lg_ofNat_toInt h
theorem pf_shr {a d : Nat} {D : Int64} (hD : (D.toBitVec.smod 64).toNat = d) (h : a < 2 ^ 62) : lN a >>> D = lN (a / 2 ^ d) := by
  have hd : a / 2 ^ d ≤ a := Nat.div_le_self _ _
  apply Int64.toInt_inj.mp
  have e : (lN a >>> D).toInt = (lN a).toInt >>> d := by
    rw [← hD]
    exact BitVec.toInt_sshiftRight ..
  rw [e, Int.shiftRight_eq_div_pow, pf_lI (by omega), pf_lI (by omega)]
  rfl
/-- names: how many, their sizes, letters, owners -/
abbrev NS : Type := Nat × (Nat → Nat) × (Nat → Nat → Nat) × (Nat → Nat)
def n_c (N : NS) : Nat := N.1
def n_z (N : NS) : Nat → Nat := N.2.1
def n_l (N : NS) : Nat → Nat → Nat := N.2.2.1
def n_o (N : NS) : Nat → Nat := N.2.2.2
/-- k letters in one number -/
def pv (d : Nat → Nat) : Nat → Nat
  | 0 => 0
  | k + 1 => 256 * pv d k + d k
/-- the letter first + k of the name i, or 0 -/
def nd (N : NS) (i first k : Nat) : Nat := if first + k < n_z N i then n_l N i (first + k) else 0
def Gn (N : NS) (t : Nat) : Prop := (∀ i, i < n_c N → 1 ≤ n_z N i ∧ n_z N i ≤ 12 ∧ n_o N i < t ∧ ∀ k, k < n_z N i → 1 ≤ n_l N i k ∧ n_l N i k < 128) ∧ ∀ y, y < t → ∃ i, i < n_c N ∧ n_o N i = y
def Dn (u : gSt) (a r0 r1 r2 : Nat) (N : NS) : Prop := u.1 a 3 = nI (n_c N) ∧ ∀ i, i < n_c N → u.2.2.2 r0 i = lN (pv (nd N i 0) 6) ∧ u.2.2.2 r1 i = lN (pv (nd N i 6) 6) ∧ u.2.2.1 r2 i = nI (n_o N i)
def Mn (u : gSt) (f zs ls : Nat) (N : NS) : Prop := u.1 42 f = nI (n_c N) ∧ ∀ i, i < n_c N → u.2.2.1 zs i = nI (n_z N i) ∧ ∀ k, k < n_z N i → u.2.2.1 ls (12 * i + k) = nI (n_l N i k)
theorem pv_6 {d : Nat → Nat} (h : ∀ k, k < 6 → d k < 256) : pv d 6 < 281474976710656 ∧ ∀ i, i < 6 → pv d 6 / 2 ^ (8 * (5 - i)) % 256 = d i := by
  have e : pv d 6 = 256 * (256 * (256 * (256 * (256 * (256 * 0 + d 0) + d 1) + d 2) + d 3) + d 4) + d 5 := rfl
  have h0 := h 0 (by decide)
  have h1 := h 1 (by decide)
  have h2 := h 2 (by decide)
  have h3 := h 3 (by decide)
  have h4 := h 4 (by decide)
  have h5 := h 5 (by decide)
  generalize pv d 6 = p at e ⊢
  refine ⟨by omega, fun i hi => ?_⟩
  rcases (by omega : i = 0 ∨ i = 1 ∨ i = 2 ∨ i = 3 ∨ i = 4 ∨ i = 5) with rfl | rfl | rfl | rfl | rfl | rfl
  · show p / 1099511627776 % 256 = d 0
    omega
  · show p / 4294967296 % 256 = d 1
    omega
  · show p / 16777216 % 256 = d 2
    omega
  · show p / 65536 % 256 = d 3
    omega
  · show p / 256 % 256 = d 4
    omega
  · show p / 1 % 256 = d 5
    omega
theorem nd_lt {N : NS} {t i first k : Nat} (hN : Gn N t) (hi : i < n_c N) : nd N i first k < 128 := by
  unfold nd
  split
  · rename_i h
    exact ((hN.1 i hi).2.2.2 _ h).2
  · decide
theorem li_sh : ∀ i, i < 6 → ((((8 : Int32) * ((5 : Int32) - nI i)).toInt64 &&& (63 : Int64)).toBitVec.smod 64).toNat = 8 * (5 - i) := by decide +kernel
theorem p_letterIn {d : Nat → Nat} {i : Nat} {u : gSt} (h : ∀ k, k < 6 → d k < 256) (hi : i < 6) : M_NameList_letterIn (lN (pv d 6)) (nI i) u = some (if d i = 0 then (-1 : Int32) else nI (d i), u) := by
  obtain ⟨h1, h2⟩ := pv_6 h
  have hdi := h i hi
  unfold M_NameList_letterIn M_NameList_letterIn_b23
  rw [pf_shr (li_sh i hi) (by omega), ql_i, show (255 : Int32) = nI (2 ^ 8 - 1) from rfl, nx_and, Nat.and_two_pow_sub_one_eq_mod]
  show (if nI (pv d 6 / 2 ^ (8 * (5 - i)) % 256) = 0 then _ else some (nI (pv d 6 / 2 ^ (8 * (5 - i)) % 256), u)) = _
  rw [h2 i hi]
  by_cases h0 : d i = 0
  · rw [if_pos (by rw [h0]; rfl), if_pos h0]
  · rw [if_neg (by rw [show (0 : Int32) = nI 0 from rfl, qi_eq (by omega) (by omega)]; exact h0), if_neg h0]
/-- the letter number x of the name k -/
def nl (N : NS) (k : Nat) (x : Int32) : Int32 := if x < 0 then -1 else if nI (n_z N k) ≤ x then -1 else nI (n_l N k (gIx x))
/-- the first name of y -/
theorem first_of {P : Nat → Prop} [∀ k, Decidable (P k)] : ∀ (c : Nat), (∃ i, i < c ∧ P i) → ∃ i, i < c ∧ P i ∧ ∀ j, j < i → ¬ P j
  | 0, h => by
    obtain ⟨i, h, -⟩ := h
    omega
  | c + 1, h => by
    by_cases hc : ∃ i, i < c ∧ P i
    · obtain ⟨i, h1, h2, h3⟩ := first_of c hc
      exact ⟨i, by omega, h2, h3⟩
    · obtain ⟨i, h1, h2⟩ := h
      have : i = c := by
        by_cases e : i = c
        · exact e
        · exact absurd ⟨i, by omega, h2⟩ hc
      subst this
      exact ⟨i, h1, h2, fun j hj hp => hc ⟨j, hj, hp⟩⟩
theorem p_letterOf {a r0 r1 r2 y k0 t : Nat} {x : Int32} {u : gSt} {N : NS} (ka : gK a = 4) (f0 : gFR a 0 = some r0) (f1 : gFR a 1 = some r1) (f2 : gFR a 2 = some r2) (k0' : gK r0 = 24) (k1' : gK r1 = 24) (k2' : gK r2 = 22) (hN : Gn N t) (hd : Dn u a r0 r1 r2 N) (hy : y < 1000) (ht : t ≤ 1000) (hc : n_c N ≤ 300) (hl0 : n_c N ≤ gLen r0) (hl1 : n_c N ≤ gLen r1) (hl2 : n_c N ≤ gLen r2) (hk : k0 < n_c N) (hk2 : n_o N k0 = y) (hk3 : ∀ i, i < k0 → ¬ n_o N i = y) : M_NameList_letterOf a (nI y) x u = some (nl N k0 x, u) := by
  have g1 : (gK a == 4) = true := by rw [ka]; rfl
  have g2 : (gK r0 == 24) = true := by rw [k0']; rfl
  have g3 : (gK r1 == 24) = true := by rw [k1']; rfl
  have g4 : (gK r2 == 22) = true := by rw [k2']; rfl
  obtain ⟨z1, z2, z3, z4⟩ := hN.1 k0 hk
  obtain ⟨hd1, hd2⟩ := hd
  unfold M_NameList_letterOf M_NameList_letterOf_b10 nl
  by_cases c1 : x < 0
  · rw [if_pos c1, if_pos c1]
  · rw [if_neg c1, if_neg c1]
    by_cases c2 : x < (12 : Int32)
    · rw [if_pos c2]
      obtain ⟨i, rfl, hi⟩ := qi_of (x := x) (n := 12) c1 (by show ¬ (12 : Int32) ≤ x; rw [Int32.le_iff_toInt_le]; rw [Int32.lt_iff_toInt_lt] at c2; omega) (by decide)
      have key : gLp M_NameList_letterOf_L14 (a, nI y, nI i, nI 0, u) = some (.inr (a, nI i, nI k0, u)) := by
        refine lp_to (S := fun j => (a, nI y, nI i, nI j, u)) (k := 0) (N := k0) (Nat.zero_le _) (fun j _ hj => ?_) ?_
        · show M_NameList_letterOf_b14 a (nI y) (nI i) (nI j) u = some (Sum.inl (a, nI y, nI i, nI (j + 1), u))
          unfold M_NameList_letterOf_b14
          have ho := (hN.1 j (by omega)).2.2.1
          rw [gc_t g1, hd1, if_neg (by rw [qi_le (by omega) (by omega)]; omega), gc_t g1, f2, Option.bind_some, gc_t g4, gc_t (qi_in (by omega) (by omega)), qi_ix (by omega), (hd2 j (by omega)).2.2, if_neg (by rw [qi_eq (by omega) (by omega)]; exact hk3 j hj)]
          show some (Sum.inl (a, nI y, nI i, nI j + nI 1, u)) = _
          rw [qi_add]
        · show M_NameList_letterOf_b14 a (nI y) (nI i) (nI k0) u = _
          unfold M_NameList_letterOf_b14
          rw [gc_t g1, hd1, if_neg (by rw [qi_le (by omega) (by omega)]; omega), gc_t g1, f2, Option.bind_some, gc_t g4, gc_t (qi_in (by omega) (by omega)), qi_ix (by omega), (hd2 k0 hk).2.2, if_pos (by rw [hk2])]
      have key2 : gLp M_NameList_letterOf_L14 (a, nI y, nI i, (0 : Int32), u) = some (.inr (a, nI i, nI k0, u)) := key
      rw [key2]
      show (if (6 : Int32) ≤ nI i then (gc (gK a == 4) <| (gFR a 1).bind fun r48 => gc (gK r48 == 24) <| gc (gIn (nI k0) (gLen r48)) <| M_NameList_letterOf_b53 (nI i) (u.2.2.2 r48 (gIx (nI k0))) u) else (gc (gK a == 4) <| (gFR a 0).bind fun r39 => gc (gK r39 == 24) <| gc (gIn (nI k0) (gLen r39)) <| M_NameList_letterOf_b53 (nI i) (u.2.2.2 r39 (gIx (nI k0))) u)) = _
      have hfin : ∀ first k, k < 6 → first + k = i → (if nd N k0 first k = 0 then (-1 : Int32) else nI (nd N k0 first k)) = if nI (n_z N k0) ≤ nI i then -1 else nI (n_l N k0 (gIx (nI i))) := fun first k hk9 e9 => by
        unfold nd
        rw [e9, qi_ix (by omega)]
        by_cases c9 : i < n_z N k0
        · have := (z4 i c9).1
          rw [if_pos c9, if_neg (by omega), if_neg (by rw [qi_le (by omega) (by omega)]; omega)]
        · rw [if_neg c9, if_pos rfl, if_pos (by rw [qi_le (by omega) (by omega)]; omega)]
      have hmod : ∀ i, i < 12 → nI i - nI i / (6 : Int32) * (6 : Int32) = nI (i % 6) := by decide +kernel
      have hlt : ∀ first k, k < 6 → nd N k0 first k < 256 := fun first k _ => Nat.lt_trans (nd_lt hN hk) (by decide)
      unfold M_NameList_letterOf_b53
      rw [hmod i hi]
      by_cases c6 : 6 ≤ i
      · rw [if_pos (show (6 : Int32) ≤ nI i from (qi_le (a := 6) (by omega) (by omega)).mpr c6), gc_t g1, f1, Option.bind_some, gc_t g3, gc_t (qi_in (by omega) (by omega)), qi_ix (by omega), (hd2 k0 hk).2.1, p_letterIn (hlt 6) (by omega), Option.bind_some, hfin 6 (i % 6) (by omega) (by omega)]
      · rw [if_neg (show ¬ (6 : Int32) ≤ nI i by rw [show (6 : Int32) = nI 6 from rfl, qi_le (by omega) (by omega)]; exact c6), gc_t g1, f0, Option.bind_some, gc_t g2, gc_t (qi_in (by omega) (by omega)), qi_ix (by omega), (hd2 k0 hk).1, p_letterIn (hlt 0) (by omega), Option.bind_some, hfin 0 (i % 6) (by omega) (by omega)]
    · rw [if_neg c2, if_pos]
      rw [Int32.le_iff_toInt_le, nI_toInt (by omega)]
      rw [Int32.lt_iff_toInt_lt, show (12 : Int32).toInt = 12 from rfl] at c2
      omega
theorem q_c6 {L j : Nat} {xs : Nat → Int32} {u u1 u2 : gSt} {k b z : Int32} (hL : L ≤ 3072) (h : 6 * j + 6 ≤ L) (hz : z = if xs (gIx (nI (6 * j) + (2 : Int32))) = 0 then 0 else 1) (e1 : M_Law_letter (xs (gIx (nI (6 * j) + (1 : Int32)))) z (xs (gIx (nI (6 * j) + (3 : Int32)))) u = some (k, u1)) (e2 : M_Model_letter (xs (gIx (nI (6 * j) + (1 : Int32)))) z (xs (gIx (nI (6 * j) + (3 : Int32)))) u1 = some (b, u2)) (h3 : u2.1 42 41 = k) (h4 : k = 0 → u2.2.2.2 66 0 = b.toInt64) : M_Law_c6 L xs (nI (6 * j)) u = some u2 := by
  unfold M_Law_c6
  rw [gc_t (p_g1 hL h), gc_t (p_g2 hL h)]
  by_cases c : xs (gIx (nI (6 * j) + (2 : Int32))) = 0
  · rw [if_pos c] at hz
    subst hz
    rw [if_pos c, gc_t (p_g3 hL h), e1, Option.bind_some, gc_t (p_g1 hL h), gc_t (p_g2 hL h), if_pos c, gc_t (p_g3 hL h), e2, Option.bind_some]
    exact p_tail h3 h4
  · rw [if_neg c] at hz
    subst hz
    rw [if_neg c, gc_t (p_g3 hL h), e1, Option.bind_some, gc_t (p_g1 hL h), gc_t (p_g2 hL h), if_neg c, gc_t (p_g3 hL h), e2, Option.bind_some]
    exact p_tail h3 h4
/-- letter: the answers are one -/
theorem p_c6 {L j : Nat} {xs : Nat → Int32} {u : gSt} {s : GS} {T G : NS} (hL : L ≤ 3072) (h : 6 * j + 6 ≤ L) (hs : Gd s) (hd : Dg u s) (hm : Mg u s) (hT : Gn T (s_t s)) (hG : Gn G (s_n s)) (cT : n_c T ≤ 300) (cG : n_c G = s_n s) (oG : ∀ i, i < n_c G → n_o G i = i) (dT : Dn u 5 6 7 8 T) (dG : Dn u 9 10 11 12 G) (mT : Mn u 7 45 44 T) (mG : Mn u 10 48 47 G) (nT : ∀ i, i < n_c T → u.2.2.1 46 i = nI (n_o T i)) : (∃ v : Int64, M_Law_c6 L xs (nI (6 * j)) u = some (gsF (gsL u 66 0 v) 42 41 0)) ∨ M_Law_c6 L xs (nI (6 * j)) u = some (gsF u 42 41 1) := by
  have hall := fun (k b z : Int32) (u1 u2 : gSt) => q_c6 (L := L) (j := j) (xs := xs) (u := u) (u1 := u1) (u2 := u2) (k := k) (b := b) (z := z) hL h
  generalize M_Law_c6 L xs (nI (6 * j)) u = V at hall ⊢
  generalize xs (gIx (nI (6 * j) + (1 : Int32))) = x at hall
  generalize xs (gIx (nI (6 * j) + (2 : Int32))) = y at hall
  generalize xs (gIx (nI (6 * j) + (3 : Int32))) = i at hall
  have ht := hs.1
  have hn := hs.2.1
  have hbad : ∀ (z : Int32) (u1 : gSt), M_Model_letter_b24 x z i u1 = some (0, gsF u1 42 41 1) := fun z u1 => by
    unfold M_Model_letter_b24 M_Model_letter_b29
    rw [p_fails1]
    rfl
  by_cases cy : y = 0
  · have hz : (0 : Int32) = if y = 0 then 0 else 1 := by rw [if_pos cy]
    rcases p_term (x := x) ht hd.1 with ⟨b1, b2, b3⟩ | ⟨b, hb, rfl, b1, b2, b3⟩
    · refine Or.inr (hall 1 0 0 u _ hz ?_ ?_ rfl (fun h9 => absurd h9 (show ¬ (1 : Int32) = 0 by decide)))
      · unfold M_Law_letter E_Desk_letter
        rw [if_pos rfl, b1]
        rfl
      · have b4 := b3 u hm.1
        unfold M_Model_isTerm M_Model_isTerm_b16 M_Model_isTerm_b17 at b4
        unfold M_Model_letter M_Model_letter_b21
        by_cases c1 : x < 0
        · rw [if_pos c1]
          exact hbad 0 u
        · rw [if_neg c1] at b4 ⊢
          rw [if_pos rfl]
          by_cases c2 : u.1 42 11 ≤ x
          · rw [if_neg (by rw [Int32.lt_iff_toInt_lt]; rw [Int32.le_iff_toInt_le] at c2; omega)]
            exact hbad 0 u
          · rw [if_neg c2] at b4
            have b5 : (1 : Int32) = 0 := congrArg (fun z => (z.getD (0, u)).1) b4
            exact absurd b5 (by decide)
    · obtain ⟨k0, hk, hk2, hk3⟩ := first_of (P := fun i => n_o T i = b) (n_c T) (hT.2 b hb)
      obtain ⟨z1, z2, z3, z4⟩ := hT.1 k0 hk
      have hM : M_NameList_letterOf 5 (nI b) i u = some (nl T k0 i, u) := p_letterOf rfl rfl rfl rfl rfl rfl rfl hT dT (by omega) (by omega) cT (by show _ ≤ 300; omega) (by show _ ≤ 300; omega) (by show _ ≤ 300; omega) hk hk2 hk3
      have hL2 : M_Law_letter (nI b) 0 i u = some (0, gsL u 66 0 (nl T k0 i).toInt64) := by
        have hE : E_Desk_letter (nI b) 0 i u = none := by
          unfold E_Desk_letter
          rw [if_pos rfl, b1]
          rfl
        unfold M_Law_letter
        rw [hE]
        show (M_Desk_letter (nI b) 0 i u).bind _ = _
        unfold M_Desk_letter M_Desk_letter_b39
        rw [if_pos rfl, b2, Option.bind_some, if_neg (show ¬ (1 : Int32) = 0 by decide), if_pos rfl, hM]
        rfl
      refine Or.inl ⟨(nl T k0 i).toInt64, hall 0 (nl T k0 i) 0 _ (gsF (gsL u 66 0 (nl T k0 i).toInt64) 42 41 0) hz hL2 ?_ rfl (fun _ => rfl)⟩
      generalize (nl T k0 i).toInt64 = v
      unfold M_Model_letter M_Model_letter_b21
      rw [if_neg (show ¬ nI b < 0 by rw [show (0 : Int32) = nI 0 from rfl, qi_lt (by omega) (by omega)]; omega), if_pos rfl, show (gsL u 66 0 v).1 42 11 = nI (s_t s) from hm.1, if_pos ((qi_lt (by omega) (by omega)).mpr hb)]
      unfold M_Model_letter_b29
      rw [p_fails0, Option.bind_some, if_pos rfl, if_pos rfl]
      have key : gLp M_Model_letter_L75 (nI b, i, nI 0, gsF (gsL u 66 0 v) 42 41 0) = some (i, nI k0, gsF (gsL u 66 0 v) 42 41 0) := by
        refine lp_to (S := fun j => (nI b, i, nI j, gsF (gsL u 66 0 v) 42 41 0)) (k := 0) (N := k0) (Nat.zero_le _) (fun j _ hj => ?_) ?_
        · show M_Model_letter_b75 (nI b) i (nI j) (gsF (gsL u 66 0 v) 42 41 0) = some (Sum.inl (nI b, i, nI (j + 1), gsF (gsL u 66 0 v) 42 41 0))
          unfold M_Model_letter_b75
          have ho := (hT.1 j (by omega)).2.2.1
          rw [gc_t (qi_in (n := gLen 46) (by omega) (show j < 300 by omega)), qi_ix (by omega), show (gsF (gsL u 66 0 v) 42 41 0).2.2.1 46 j = nI (n_o T j) from nT j (by omega), if_neg (by rw [qi_eq (by omega) (by omega)]; exact hk3 j hj)]
          show some (Sum.inl (nI b, i, nI j + nI 1, _)) = _
          rw [qi_add]
        · show M_Model_letter_b75 (nI b) i (nI k0) (gsF (gsL u 66 0 v) 42 41 0) = _
          unfold M_Model_letter_b75
          rw [gc_t (qi_in (n := gLen 46) (by omega) (show k0 < 300 by omega)), qi_ix (by omega), show (gsF (gsL u 66 0 v) 42 41 0).2.2.1 46 k0 = nI (n_o T k0) from nT k0 hk, if_pos (by rw [hk2])]
      have key2 : gLp M_Model_letter_L75 (nI b, i, (0 : Int32), gsF (gsL u 66 0 v) 42 41 0) = some (i, nI k0, gsF (gsL u 66 0 v) 42 41 0) := key
      rw [key2, Option.bind_some]
      obtain ⟨q1, q2⟩ := mT.2 k0 hk
      unfold nl
      show (if i < 0 then _ else _) = _
      by_cases c1 : i < 0
      · rw [if_pos c1, if_pos c1]
        rfl
      · rw [if_neg c1, if_neg c1, gc_t (qi_in (n := gLen 45) (by omega) (show k0 < 300 by omega)), qi_ix (by omega), show (gsF (gsL u 66 0 v) 42 41 0).2.2.1 45 k0 = nI (n_z T k0) from q1]
        by_cases c2 : nI (n_z T k0) ≤ i
        · rw [if_pos c2, if_pos c2]
          rfl
        · rw [if_neg c2, if_neg c2]
          obtain ⟨m, rfl, hmz⟩ := qi_of c1 c2 (by omega)
          rw [show (12 : Int32) = nI 12 from rfl, qi_mul, qi_add, gc_t (qi_in (n := gLen 44) (by omega) (show 12 * k0 + m < 3600 by omega)), qi_ix (by omega), qi_ix (by omega), show (gsF (gsL u 66 0 v) 42 41 0).2.2.1 44 (12 * k0 + m) = nI (n_l T k0 m) from q2 m hmz]
          rfl
  · have hz : (1 : Int32) = if y = 0 then 0 else 1 := by rw [if_neg cy]
    rcases p_gene (x := x) hn hd.2.1 with ⟨a0, a1, a2⟩ | ⟨b, hb, rfl, a3, a4, a1, a2⟩
    · refine Or.inr (hall 1 0 1 u _ hz ?_ ?_ rfl (fun h9 => absurd h9 (show ¬ (1 : Int32) = 0 by decide)))
      · unfold M_Law_letter E_Desk_letter
        rw [if_neg (show ¬ (1 : Int32) = 0 by decide), a1]
        rfl
      · unfold M_Model_letter M_Model_letter_b21
        by_cases c1 : x < 0
        · rw [if_pos c1]
          exact hbad 1 u
        · have c2 := a0.resolve_left c1
          rw [if_neg c1, if_neg (show ¬ (1 : Int32) = 0 by decide), hm.2.1, if_neg (by rw [Int32.lt_iff_toInt_lt]; rw [Int32.le_iff_toInt_le] at c2; omega)]
          exact hbad 1 u
    · have hk : b < n_c G := by omega
      obtain ⟨z1, z2, z3, z4⟩ := hG.1 b hk
      have hM : M_NameList_letterOf 9 (nI b) i u = some (nl G b i, u) := p_letterOf rfl rfl rfl rfl rfl rfl rfl hG dG (by omega) (by omega) (by omega) (by show _ ≤ 200; omega) (by show _ ≤ 200; omega) (by show _ ≤ 200; omega) hk (oG b hk) (fun i9 h9 => by rw [oG i9 (by omega)]; omega)
      have hL2 : M_Law_letter (nI b) 1 i u = some (0, gsL u 66 0 (nl G b i).toInt64) := by
        have hE : E_Desk_letter (nI b) 1 i u = none := by
          unfold E_Desk_letter
          rw [if_neg (show ¬ (1 : Int32) = 0 by decide), a1]
          rfl
        unfold M_Law_letter
        rw [hE]
        show (M_Desk_letter (nI b) 1 i u).bind _ = _
        unfold M_Desk_letter M_Desk_letter_b39
        rw [if_neg (show ¬ (1 : Int32) = 0 by decide), a2, Option.bind_some, if_neg (show ¬ (1 : Int32) = 0 by decide), if_neg (show ¬ (1 : Int32) = 0 by decide), hM]
        rfl
      refine Or.inl ⟨(nl G b i).toInt64, hall 0 (nl G b i) 1 _ (gsF (gsL u 66 0 (nl G b i).toInt64) 42 41 0) hz hL2 ?_ rfl (fun _ => rfl)⟩
      generalize (nl G b i).toInt64 = v
      unfold M_Model_letter M_Model_letter_b21
      rw [if_neg a3, if_neg (show ¬ (1 : Int32) = 0 by decide), show (gsL u 66 0 v).1 42 10 = nI (s_n s) from hm.2.1, if_pos ((qi_lt (by omega) (by omega)).mpr hb)]
      unfold M_Model_letter_b29
      rw [p_fails0, Option.bind_some, if_pos rfl, if_neg (show ¬ (1 : Int32) = 0 by decide)]
      obtain ⟨q1, q2⟩ := mG.2 b hk
      unfold nl
      by_cases c1 : i < 0
      · rw [if_pos c1, if_pos c1]
        rfl
      · rw [if_neg c1, if_neg c1, gc_t (qi_in (n := gLen 48) (by omega) (show b < 200 by omega)), qi_ix (by omega), show (gsF (gsL u 66 0 v) 42 41 0).2.2.1 48 b = nI (n_z G b) from q1]
        by_cases c2 : nI (n_z G b) ≤ i
        · rw [if_pos c2, if_pos c2]
          rfl
        · rw [if_neg c2, if_neg c2]
          obtain ⟨m, rfl, hmz⟩ := qi_of c1 c2 (by omega)
          rw [show (12 : Int32) = nI 12 from rfl, qi_mul, qi_add, gc_t (qi_in (n := gLen 47) (by omega) (show 12 * b + m < 2400 by omega)), qi_ix (by omega), qi_ix (by omega), show (gsF (gsL u 66 0 v) 42 41 0).2.2.1 47 (12 * b + m) = nI (n_l G b m) from q2 m hmz]
          rfl
