/-! The model's lessNumber. -/
theorem nI_32 {n : Nat} : nI (n + 4294967296) = nI n := by
  rw [← qi_add, show nI 4294967296 = (0 : Int32) from rfl, Int32.add_zero]
def crI (c : Nat) : Int32 := if c = 0 then 0 else -1
theorem t_pos {p q c : Nat} (hc : c ≤ 1) (h : q + c ≤ p) : crI c + (nI p - nI q) = nI (p - q - c) := by
  rw [pk_sub (by omega)]
  unfold crI
  by_cases e : c = 0
  · rw [if_pos e, e, Int32.zero_add]
    rfl
  · rw [if_neg e, Int32.add_comm, qi_m1 (by omega), show c = 1 by omega]
theorem t_neg {p q c : Nat} (hc : c ≤ 1) (hq : q < 32768) (h : p < q + c) : crI c + (nI p - nI q) = nI (p + 32768 - q - c + 4294934528) := by
  rw [← nI_32 (n := p), pk_sub (by omega)]
  unfold crI
  by_cases e : c = 0
  · rw [if_pos e, e, Int32.zero_add, show p + 4294967296 - q = p + 32768 - q - 0 + 4294934528 by omega]
  · rw [if_neg e, Int32.add_comm, qi_m1 (by omega), show p + 4294967296 - q - 1 = p + 32768 - q - c + 4294934528 by omega]
theorem i_and15 {n : Nat} (h : n < 2 ^ 32) : nI n &&& (32767 : Int32) = nI (n % 32768) := pk_andN h 15 (by decide)
theorem i_shr15 {n : Nat} (h : n < 32768) : nI n >>> ((15 : Int32) &&& (31 : Int32)) = 0 := by
  rw [pk_shrN (by omega) ((15 : Int32) &&& (31 : Int32)) 15 (by decide), Nat.div_eq_of_lt h]
  rfl
theorem nI_neg {e : Nat} (h : e < 32768) : (nI (e + 4294934528)).toInt = (e : Int) - 32768 := by
  have h2 : (nI (e + 4294934528)).toBitVec.toNat = e + 4294934528 := by
    show (BitVec.ofNat 32 (e + 4294934528)).toNat = _
    rw [BitVec.toNat_ofNat]
    omega
  show (nI (e + 4294934528)).toBitVec.toInt = _
  rw [BitVec.toInt_eq_toNat_cond, h2, if_neg (by omega)]
  omega
theorem i_shrN {e : Nat} (h : e < 32768) : nI (e + 4294934528) >>> ((15 : Int32) &&& (31 : Int32)) = -1 := by
  apply Int32.toInt_inj.mp
  rw [pk_shr _ _ 15 (by decide), nI_neg h, Int.shiftRight_eq_div_pow]
  show ((e : Int) - 32768) / 32768 = -1
  omega
def lsD (D : Nat → Int32) (x v w k : Nat) : Nat → Int32 := fun i => if 48 * x ≤ i ∧ i < 48 * x + k then nI ((v - w) / 32768 ^ (i - 48 * x) % 32768) else D i
theorem lsD_o {D N : Nat → Int32} {x v w k : Nat} (hx : x < 8) (hk : k ≤ 48) : Ox D N (lsD D x v w k) N x := fun y hy hne => ⟨rfl, fun j hj => by
  unfold lsD
  rw [if_neg (by omega)]⟩
theorem q_less {u : gSt} {D N : Nat → Int32} {x y v w : Nat} (hx : x < 8) (hy : y < 8) (hne : x ≠ y) (hv : Rd D N x v) (hw : Rd D N y w) (h : w ≤ v) : ∃ D' N', M_Model_lessNumber (nI x) (nI y) (rg u D N) = some (rg u D' N') ∧ Ox D N D' N' x ∧ Rd D' N' x (v - w) := by
  obtain ⟨m, ⟨m1, m2, m3, m4⟩, -⟩ := hv
  obtain ⟨l, l1, -⟩ := hw
  have key : gLp M_Model_lessNumber_L5 (nI x, nI y, crI 0, nI 0, rg u (lsD D x v w 0) N) = some (nI x, rg u (lsD D x v w m) N) := by
    have h00 : crI 0 = crI (if v % 32768 ^ 0 < w % 32768 ^ 0 then 1 else 0) := by
      rw [Nat.pow_zero, Nat.mod_one, Nat.mod_one, if_neg (by decide)]
    rw [h00]
    refine lp_to (S := fun k => (nI x, nI y, crI (if v % 32768 ^ k < w % 32768 ^ k then 1 else 0), nI k, rg u (lsD D x v w k) N)) (k := 0) (N := m) (Nat.zero_le _) (fun k _ hk => ?_) ?_
    · show M_Model_lessNumber_b5 (nI x) (nI y) (crI (if v % 32768 ^ k < w % 32768 ^ k then 1 else 0)) (nI k) (rg u (lsD D x v w k) N) = _
      have d1 := q_digit (u := u) (D := lsD D x v w k) (N := N) (x := x) (m := m) (w := v) (k := k) hx (by omega) m2 m1 (fun _ => by
        unfold lsD
        rw [if_neg (by omega)]
        exact m4 k hk) (fun h9 => absurd h9 (by omega))
      have d2 := q_digitR (u := u) (k := k) hy (by omega) (Ru_o (lsD_o (v := v) (w := w) hx (show k ≤ 48 by omega)) hy (Ne.symm hne) l1)
      have bq : w / 32768 ^ k % 32768 < 32768 := Nat.mod_lt _ (by decide)
      have bp : v / 32768 ^ k % 32768 < 32768 := Nat.mod_lt _ (by decide)
      have hc : (if v % 32768 ^ k < w % 32768 ^ k then 1 else 0) ≤ 1 := by split <;> decide
      have hst := sstep (B := 32768) (P := 32768 ^ k) (v := v) (w := w) (p5 k) (by decide) h
      have hpw : 32768 ^ (k + 1) = 32768 ^ k * 32768 := rfl
      unfold M_Model_lessNumber_b5
      rw [gc_t (qi_in (n := gLen 56) (by omega) (show x < 8 from hx)), qi_ix (by omega), rg_N, m2, if_neg (by rw [qi_le (by omega) (by omega)]; omega), d1, Option.bind_some]
      show ((M_Model_digit (nI y) (nI k) (rg u (lsD D x v w k) N)).bind fun q28 => gc (gIn ((48 : Int32) * nI x + nI k) (gLen 55)) <| some (Sum.inl (nI x, nI y, (crI (if v % 32768 ^ k < w % 32768 ^ k then 1 else 0) + (nI (v / 32768 ^ k % 32768) - q28.1)) >>> ((15 : Int32) &&& (31 : Int32)), nI k + nI 1, gsA q28.2 55 (gIx ((48 : Int32) * nI x + nI k)) ((crI (if v % 32768 ^ k < w % 32768 ^ k then 1 else 0) + (nI (v / 32768 ^ k % 32768) - q28.1)) &&& (32767 : Int32))))) = some (Sum.inl (nI x, nI y, crI (if v % 32768 ^ (k + 1) < w % 32768 ^ (k + 1) then 1 else 0), nI (k + 1), rg u (lsD D x v w (k + 1)) N))
      rw [d2, Option.bind_some, mul48, gc_t (qi_in (n := gLen 55) (by omega) (show 48 * x + k < 384 by omega)), qi_ix (by omega), qi_add, hpw]
      have fin : ∀ (cr : Int32) (dg : Nat), cr = crI (if v % (32768 ^ k * 32768) < w % (32768 ^ k * 32768) then 1 else 0) → dg = (v - w) / 32768 ^ k % 32768 → some (Sum.inl (nI x, nI y, cr, nI (k + 1), gsA (rg u (lsD D x v w k) N) 55 (48 * x + k) (nI dg))) = some (Sum.inl (β := Int32 × gSt) (nI x, nI y, crI (if v % (32768 ^ k * 32768) < w % (32768 ^ k * 32768) then 1 else 0), nI (k + 1), rg u (lsD D x v w (k + 1)) N)) := fun cr dg e1 e2 => by
        rw [e1, e2, rg_a55]
        refine congrArg (fun z => some (Sum.inl (nI x, nI y, crI (if v % (32768 ^ k * 32768) < w % (32768 ^ k * 32768) then 1 else 0), nI (k + 1), rg u z N))) ?_
        funext i
        unfold lsD
        by_cases c : i = 48 * x + k
        · rw [c, pk_us, if_pos (by omega), show 48 * x + k - 48 * x = k by omega]
        · rw [pk_un c]
          by_cases d : 48 * x ≤ i ∧ i < 48 * x + k
          · rw [if_pos d, if_pos (by omega)]
          · rw [if_neg d, if_neg (by omega)]
      generalize hcc : (if v % 32768 ^ k < w % 32768 ^ k then 1 else 0) = c at hst hc ⊢
      by_cases cs : w / 32768 ^ k % 32768 + c ≤ v / 32768 ^ k % 32768
      · obtain ⟨s1, s2⟩ := hst.1 cs
        show some (Sum.inl (nI x, nI y, (crI c + (nI (v / 32768 ^ k % 32768) - nI (w / 32768 ^ k % 32768))) >>> ((15 : Int32) &&& (31 : Int32)), nI (k + 1), gsA (rg u (lsD D x v w k) N) 55 (48 * x + k) ((crI c + (nI (v / 32768 ^ k % 32768) - nI (w / 32768 ^ k % 32768))) &&& (32767 : Int32)))) = _
        rw [t_pos hc cs, i_and15 (by omega), i_shr15 (by omega), Nat.mod_eq_of_lt (show v / 32768 ^ k % 32768 - w / 32768 ^ k % 32768 - c < 32768 by omega)]
        exact fin 0 _ (by rw [s2]; rfl) s1.symm
      · obtain ⟨s1, s2⟩ := hst.2 (by omega)
        show some (Sum.inl (nI x, nI y, (crI c + (nI (v / 32768 ^ k % 32768) - nI (w / 32768 ^ k % 32768))) >>> ((15 : Int32) &&& (31 : Int32)), nI (k + 1), gsA (rg u (lsD D x v w k) N) 55 (48 * x + k) ((crI c + (nI (v / 32768 ^ k % 32768) - nI (w / 32768 ^ k % 32768))) &&& (32767 : Int32)))) = _
        rw [t_neg hc bq (by omega), i_and15 (by omega), i_shrN (by omega)]
        exact fin (-1) _ (by rw [s2]; rfl) (by rw [s1]; omega)
    · show M_Model_lessNumber_b5 (nI x) (nI y) (crI (if v % 32768 ^ m < w % 32768 ^ m then 1 else 0)) (nI m) (rg u (lsD D x v w m) N) = _
      unfold M_Model_lessNumber_b5
      rw [gc_t (qi_in (n := gLen 56) (by omega) (show x < 8 from hx)), qi_ix (by omega), rg_N, m2, if_pos ((qi_le (by omega) (by omega)).mpr (Nat.le_refl _))]
  have l0 : lsD D x v w 0 = D := by
    funext i
    unfold lsD
    rw [if_neg (by omega)]
  rw [l0] at key
  obtain ⟨N', e2, o2, r2⟩ := q_trim (u := u) (D := lsD D x v w m) (w := v - w) hx m N ⟨m1, m2, by omega, fun k hk => by
    unfold lsD
    rw [if_pos (by omega), show 48 * x + k - 48 * x = k by omega]⟩
  refine ⟨lsD D x v w m, N', ?_, Ox_t (lsD_o hx m1) o2, r2⟩
  unfold M_Model_lessNumber
  show ((gLp M_Model_lessNumber_L5 (nI x, nI y, crI 0, nI 0, rg u D N)).bind _) = _
  rw [key, Option.bind_some]
  show ((M_Model_trimNumber (nI x) (rg u (lsD D x v w m) N)).bind fun q64 => some q64) = _
  rw [e2]
  rfl
theorem r_less {u : gSt} {x y v w : Nat} (hx : x < 8) (hy : y < 8) (hne : x ≠ y) (hv : Rs u x v) (hw : Rs u y w) (h : w ≤ v) : ∃ z, M_Model_lessNumber (nI x) (nI y) u = some z ∧ FX (fun y => y = x) u z ∧ Rs z x (v - w) := by
  obtain ⟨D, N, e, o, r⟩ := q_less (u := u) hx hy hne hv hw h
  rw [rg_0] at e
  exact ⟨_, by rw [e, rg_rq], FX_rq o, Rs_rq r⟩
