/-! The class's sumWays. -/
/-- the chance's upper number: h or more hits, of K genes at the term, n studied, N in all -/
def hs (N K n h : Nat) : Nat := sR (wt K (N - K) n) h (min K n + 1 - h)
theorem hs_le {N K n h : Nat} (hK : K ≤ N) (hh : h ≤ n) : hs N K n h ≤ ch N n := by
  unfold hs
  have h1 := ways_le (K := K) (M := N - K) (n := n) (h := h) (d := min K n + 1 - h) (by omega)
  rw [show K + (N - K) = N by omega] at h1
  exact h1
theorem i_arg {N K n i : Nat} (hN : N ≤ 200) (hK : K ≤ N) (hn : n ≤ N) (hi : i ≤ n) (h : n ≤ N - K + i) : nI N - nI K - nI n + nI i + (1 : Int32) = nI (N - K + i + 1 - n) := by
  have e1 : (nI N - nI K - nI n + nI i + (1 : Int32)).toInt = (N : Int) - K - n + i + 1 := by
    rw [Int32.toInt_add, Int32.toInt_add, Int32.toInt_sub, Int32.toInt_sub, nI_toInt (by omega), nI_toInt (by omega), nI_toInt (by omega), nI_toInt (by omega), show (1 : Int32).toInt = 1 from rfl]
    rw [Int.bmod_eq_of_le (n := (N : Int) - K) (by omega) (by omega)]
    rw [Int.bmod_eq_of_le (n := (N : Int) - K - n) (by omega) (by omega)]
    rw [Int.bmod_eq_of_le (n := (N : Int) - K - n + i) (by omega) (by omega)]
    rw [Int.bmod_eq_of_le (by omega) (by omega)]
  rw [← Int32.toInt_inj, e1, nI_toInt (by omega)]
  omega
theorem p_sumWays {u : gSt} {r N K n h : Nat} (hr : r ≠ 36) (hk : gK r = 22) (hl : gLen r = 8) (h10 : u.1 27 10 = nI N) (h11 : u.1 27 11 = nI n) (hN : N ≤ 200) (hK : K ≤ N) (hn : n ≤ N) (hh : h ≤ K) (hhn : h ≤ n) (hf : n - h ≤ N - K) : ∃ x, M_Ranking_sumWays r (nI K) (nI h) u = some (wr (wr u 36 x) r (hs N K n h)) := by
  have hp : 2 ^ N ≤ 2 ^ 200 := Nat.pow_le_pow_right (by decide) hN
  have hc : ch N n ≤ 2 ^ 200 := Nat.le_trans (ch_two N n) hp
  have hwt : ∀ i, i ≤ n → wt K (N - K) n i ≤ 2 ^ 200 := fun i hi => by
    have h1 := wt_le (K := K) (M := N - K) (n := n) hi
    rw [show K + (N - K) = N by omega] at h1
    omega
  have hsm : ∀ d, h + d ≤ n + 1 → sR (wt K (N - K) n) h d ≤ 2 ^ 200 := fun d hd => by
    have h1 := ways_le (K := K) (M := N - K) (n := n) (h := h) (d := d) hd
    rw [show K + (N - K) = N by omega] at h1
    omega
  have lt8 : ∀ x, x ≤ 2 ^ 200 → x < 1000000000 ^ 8 := fun x hx => Nat.lt_of_le_of_lt hx (by decide)
  have lt84 : ∀ x y, x ≤ 2 ^ 200 → y ≤ 40000 → x * y < 1000000000 ^ 8 := fun x y hx hy => Nat.lt_of_le_of_lt (Nat.mul_le_mul hx hy) (by decide)
  -- the first way
  have c1 : M_Wide_multiplyByChoices 36 (nI K) (nI h) (wr u 36 1) = some (wr u 36 (ch K h)) := by
    have e := p_choices (u := wr u 36 1) (r := 36) (v := 1) (m := K - h) (t := h) rfl rfl (by omega) (wr_v (by decide)) (fun i hi => by
      rw [Nat.one_mul]
      exact Nat.le_trans (ch_two _ _) (Nat.pow_le_pow_right (by decide) (by omega)))
    rw [show K - h + h = K by omega, wr_wr, Nat.one_mul] at e
    exact e
  have c2 : M_Wide_multiplyByChoices 36 (nI N - nI K) (nI n - nI h) (wr u 36 (ch K h)) = some (wr u 36 (wt K (N - K) n h)) := by
    have e := p_choices (u := wr u 36 (ch K h)) (r := 36) (v := ch K h) (m := N - K - (n - h)) (t := n - h) rfl rfl (by omega) (wr_v (lt8 _ (Nat.le_trans (ch_two _ _) (Nat.pow_le_pow_right (by decide) (by omega))))) (fun i hi => by
      have h1 : ch K h ≤ 2 ^ K := ch_two K h
      have h2 : ch (N - K - (n - h) + i) i ≤ 2 ^ (N - K) := Nat.le_trans (ch_two _ _) (Nat.pow_le_pow_right (by decide) (by omega))
      have h3 : ch K h * ch (N - K - (n - h) + i) i ≤ 2 ^ K * 2 ^ (N - K) := Nat.mul_le_mul h1 h2
      rw [← Nat.pow_add, show K + (N - K) = N by omega] at h3
      omega)
    rw [show N - K - (n - h) + (n - h) = N - K by omega, wr_wr] at e
    rw [pk_sub hK, pk_sub hhn]
    exact e
  -- the ways behind it
  have key : gLp M_Ranking_sumWays_L57 (r, nI K, nI (min K n), nI (h + 0), wr (wr u 36 (wt K (N - K) n (h + 0))) r (sR (wt K (N - K) n) h (0 + 1))) = some (wr (wr u 36 (wt K (N - K) n (h + (min K n - h)))) r (sR (wt K (N - K) n) h (min K n - h + 1))) := by
    refine lp_to (S := fun d => (r, nI K, nI (min K n), nI (h + d), wr (wr u 36 (wt K (N - K) n (h + d))) r (sR (wt K (N - K) n) h (d + 1)))) (k := 0) (N := min K n - h) (Nat.zero_le _) (fun d _ hd => ?_) ?_
    · show M_Ranking_sumWays_b57 r (nI K) (nI (min K n)) (nI (h + d)) (wr (wr u 36 (wt K (N - K) n (h + d))) r (sR (wt K (N - K) n) h (d + 1))) = some (Sum.inl (r, nI K, nI (min K n), nI (h + (d + 1)), wr (wr u 36 (wt K (N - K) n (h + (d + 1)))) r (sR (wt K (N - K) n) h (d + 1 + 1))))
      have v36 : Wv (wr (wr u 36 (wt K (N - K) n (h + d))) r (sR (wt K (N - K) n) h (d + 1))) 36 (wt K (N - K) n (h + d)) := wr_b (Ne.symm hr) (wr_v (lt8 _ (hwt _ (by omega))))
      have comm : ∀ (w : gSt) (x y : Nat), wr (wr w r x) 36 y = wr (wr w 36 y) r x := fun w x y => by
        unfold wr
        rw [gsR_b (Ne.symm hr), gsR_b hr]
        unfold gsR
        refine Prod.ext rfl (Prod.ext rfl (Prod.ext (funext fun b => ?_) rfl))
        show (if b = 36 then _ else if b = r then _ else w.2.2.1 b) = (if b = r then _ else if b = 36 then _ else w.2.2.1 b)
        by_cases b1 : b = 36
        · rw [if_pos b1, if_neg (by omega), if_pos b1]
        · rw [if_neg b1]
          by_cases b2 : b = r
          · rw [if_pos b2, if_pos b2]
          · rw [if_neg b2, if_neg b2, if_neg b1]
      have a1 : (nI K - nI (h + d)) * (nI n - nI (h + d)) = nI ((K - (h + d)) * (n - (h + d))) := by rw [pk_sub (by omega), pk_sub (by omega), qi_mul]
      have a2 : (nI (h + d) + (1 : Int32)) * (nI N - nI K - nI n + nI (h + d) + (1 : Int32)) = nI ((h + d + 1) * (N - K + (h + d) + 1 - n)) := by
        rw [i_arg hN hK hn (by omega) (by omega), show (1 : Int32) = nI 1 from rfl, qi_add, qi_mul]
      have b1 : (K - (h + d)) * (n - (h + d)) ≤ 40000 := Nat.le_trans (Nat.mul_le_mul (show K - (h + d) ≤ 200 by omega) (show n - (h + d) ≤ 200 by omega)) (by decide)
      have b2 : (h + d + 1) * (N - K + (h + d) + 1 - n) ≤ 201 * 401 := Nat.mul_le_mul (by omega) (by omega)
      have b3 : 0 < (h + d + 1) * (N - K + (h + d) + 1 - n) := Nat.mul_pos (by omega) (by omega)
      have hup := wt_up (K := K) (M := N - K) (n := n) (i := h + d) (by omega) (by omega)
      unfold M_Ranking_sumWays_b57
      rw [if_neg (by rw [qi_le (by omega) (by omega)]; omega)]
      show ((M_Wide_multiply 36 ((nI K - nI (h + d)) * (u.1 27 11 - nI (h + d))) _).bind _) = _
      rw [h11, a1, p_multiply rfl rfl v36 (by omega), Option.bind_some]
      show ((M_Wide_divide 36 ((nI (h + d) + (1 : Int32)) * (u.1 27 10 - nI K - u.1 27 11 + nI (h + d) + (1 : Int32))) _).bind _) = _
      rw [h10, h11, a2, comm, wr_wr, p_divide rfl rfl (wr_b (Ne.symm hr) (wr_v (lt84 _ _ (hwt _ (by omega)) b1))) b3 (by omega), Option.bind_some, comm, wr_wr, hup, p_wadd (a := r) (b := 36) hr hk rfl hl rfl (wr_v (lt8 _ (hsm _ (by omega)))) (wr_b (Ne.symm hr) (wr_v (lt8 _ (hwt _ (by omega))))), Option.bind_some, wr_wr]
      show some (Sum.inl (r, nI K, nI (min K n), nI (h + d) + nI 1, _)) = _
      rw [qi_add]
      rfl
    · show M_Ranking_sumWays_b57 r (nI K) (nI (min K n)) (nI (h + (min K n - h))) _ = _
      unfold M_Ranking_sumWays_b57
      rw [if_pos ((qi_le (by omega) (by omega)).mpr (by omega))]
  refine ⟨wt K (N - K) n (h + (min K n - h)), ?_⟩
  unfold M_Ranking_sumWays
  rw [p_set1 rfl rfl, Option.bind_some, c1, Option.bind_some]
  show ((M_Wide_multiplyByChoices 36 (u.1 27 10 - nI K) (u.1 27 11 - nI h) (wr u 36 (ch K h))).bind _) = _
  rw [h10, h11, c2, Option.bind_some, p_copy (a := 36) (b := r) rfl hk rfl hl (wr_v (lt8 _ (hwt h hhn))), Option.bind_some]
  have emin : (if (wr (wr u 36 (wt K (N - K) n h)) r (wt K (N - K) n h)).1 27 11 < nI K then (wr (wr u 36 (wt K (N - K) n h)) r (wt K (N - K) n h)).1 27 11 else nI K) = nI (min K n) := by
    show (if u.1 27 11 < nI K then u.1 27 11 else nI K) = _
    rw [h11]
    by_cases c : n < K
    · rw [if_pos ((qi_lt (by omega) (by omega)).mpr c), Nat.min_eq_right (by omega)]
    · rw [if_neg (by rw [qi_lt (by omega) (by omega)]; exact c), Nat.min_eq_left (by omega)]
  have e1 : sR (wt K (N - K) n) h (0 + 1) = wt K (N - K) n h := by
    show 0 + wt K (N - K) n (h + 0) = _
    rw [Nat.zero_add, Nat.add_zero]
  rw [e1, Nat.add_zero] at key
  rw [emin, key, show min K n - h + 1 = min K n + 1 - h by omega]
  rfl
