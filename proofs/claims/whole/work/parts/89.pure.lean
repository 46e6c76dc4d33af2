/-! The pure statement, of the functions M_.. alone. -/
theorem st_pure : ∃ Inv : gSt → Prop, Inv st_u ∧ ∀ (L : Nat) (xs : Nat → Int32), L ≤ 3072 → ∀ (j : Nat) (u : gSt), 6 * j + 6 ≤ L → Inv u → ∃ u', M_Law_it L xs (nI (6 * j)) u = some u' ∧ Inv u' := by
  refine ⟨In0, In_st, fun L xs hL j u h hI => ?_⟩
  unfold M_Law_it
  rw [gc_t (qi_in (n := L) (by omega) (by omega))]
  generalize xs (gIx (nI (6 * j))) &&& (15 : Int32) = k
  by_cases k0 : k = 0
  · rw [if_pos k0]
    exact In_c0 hL h hI
  rw [if_neg k0]
  by_cases k1 : k = 1
  · rw [if_pos k1]
    exact In_c1 hL h hI
  rw [if_neg k1]
  by_cases k2 : k = 2
  · rw [if_pos k2]
    exact In_c2 hI
  rw [if_neg k2]
  by_cases k3 : k = 3
  · rw [if_pos k3]
    exact In_c3 hL h hI
  rw [if_neg k3]
  by_cases k4 : k = 4
  · rw [if_pos k4]
    exact In_c4 hL h hI
  rw [if_neg k4]
  by_cases k5 : k = 5
  · rw [if_pos k5]
    exact In_c5 hL h hI
  rw [if_neg k5]
  by_cases k6 : k = 6
  · rw [if_pos k6]
    exact In_c6 hL h hI
  rw [if_neg k6]
  by_cases k7 : k = 7
  · rw [if_pos k7]
    exact In_c7 hL h hI
  rw [if_neg k7]
  by_cases k8 : k = 8
  · rw [if_pos k8]
    exact In_c8 hL h hI
  rw [if_neg k8]
  by_cases k9 : k = 9
  · rw [if_pos k9]
    exact In_c9 hL h hI
  rw [if_neg k9]
  by_cases k10 : k = 10
  · rw [if_pos k10]
    exact In_c10 hL h hI
  rw [if_neg k10]
  by_cases k11 : k = 11
  · rw [if_pos k11]
    exact In_c11 hL h hI
  rw [if_neg k11]
  by_cases k12 : k = 12
  · rw [if_pos k12]
    exact In_c12 hL h hI
  rw [if_neg k12]
  by_cases k13 : k = 13
  · rw [if_pos k13]
    exact In_c13
  rw [if_neg k13]
  exact ⟨u, rfl, hI⟩
