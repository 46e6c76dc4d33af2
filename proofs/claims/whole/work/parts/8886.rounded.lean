/-! writeRounded as a whole. -/
def upV (a b p : Nat) : Bool := decide (b < a * 10 ^ p % b * 2 ∨ (a * 10 ^ p % b * 2 = b ∧ a * 10 ^ p / b % 2 = 1))
def rnd (a b p : Nat) : Nat := a * 10 ^ p / b + (if upV a b p = true then 1 else 0)
theorem up_lt {a b p : Nat} (hb : 0 < b) (hab : a ≤ b) (h : upV a b p = true) : a * 10 ^ p / b < 10 ^ p := by
  have h1 := of_decide_eq_true h
  have hne : a ≠ b := fun e => by
    rw [e, Nat.mul_mod_right] at h1
    omega
  rw [Nat.div_lt_iff_lt_mul hb, Nat.mul_comm]
  exact Nat.mul_lt_mul_of_pos_left (by omega) (Nat.pow_pos (by decide))
theorem wv10 {x b : Nat} (hb : b ≤ 2 ^ 200 * 200) (h : x < 10 * b) : x < 1000000000 ^ 8 := Nat.lt_of_lt_of_le h (Nat.le_trans (Nat.mul_le_mul (Nat.le_refl 10) hb) (by decide))
theorem d_rounded {u : gSt} {a b p : Nat} (ha : Wv u 40 a) (hb : Wv u 41 b) (h0 : 0 < b) (hab : a ≤ b) (hbb : b ≤ 2 ^ 200 * 200) (hp : p ≤ 40) (h3 : u.1 38 3 = nI 0) : ∃ w, M_Strip_writeRounded (nI p) u = some w ∧ tS w (tx (rnd a b p) p) (txL p) ∧ FZ1 u w := by
  obtain ⟨V, hV⟩ : ∃ V, V = a * 10 ^ p / b := ⟨_, rfl⟩
  have hL : (p = 0 → txL p = 1) ∧ (p ≠ 0 → txL p = p + 2) := by
    unfold txL
    split <;> omega
  have hL2 : txL p ≤ 42 ∧ 1 ≤ txL p := by
    by_cases c : p = 0
    · have := hL.1 c
      omega
    · have := hL.2 c
      omega
  have t0 : tx V p 0 = 48 + a / b := by
    show 48 + V / 10 ^ p % 10 = _
    have e := v_div (a := a) (p := p) (k := 0) h0 (Nat.zero_le _)
    rw [Nat.sub_zero, Nat.pow_zero, Nat.mul_one, ← hV] at e
    have : a / b ≤ 1 := by
      have h9 : a / b < 2 := by
        rw [Nat.div_lt_iff_lt_mul h0]
        omega
      omega
    rw [e, Nat.mod_eq_of_lt (by omega)]
  obtain ⟨w1, e1, t1, f1, a1, b1⟩ := d_next (T := tx V p) (m := 0) ha hb h0 (by omega) ⟨h3, fun i hi => by omega⟩ (by decide) t0
  -- the point
  have pt : ∃ w2, M_Strip_writeRounded (nI p) u = M_Strip_writeRounded_b14 (nI p) w2 ∧ tS w2 (tx V p) (txL p - p) ∧ FZ1 u w2 ∧ Wv w2 40 (a % b) ∧ Wv w2 41 b := by
    by_cases c : p = 0
    · refine ⟨w1, ?_, by rw [hL.1 c, show 1 - p = 0 + 1 by omega]; exact t1, f1, a1, b1⟩
      unfold M_Strip_writeRounded
      rw [e1, Option.bind_some, if_pos (by rw [c]; decide)]
    · obtain ⟨w2, e2, t2, f2⟩ := d_write (c := 46) t1 (by decide) (by decide) rfl
      refine ⟨w2, ?_, by rw [hL.2 c, show p + 2 - p = 2 by omega]; exact t2, FZ1_t f1 (FZ1_Y f2), Wv_Y f2 (by decide) a1, Wv_Y f2 (by decide) b1⟩
      unfold M_Strip_writeRounded
      rw [e1, Option.bind_some, if_neg (by rw [qi_le0 (by omega)]; exact c)]
      show ((M_Strip_write (nI 46) w1).bind _) = _
      rw [e2, Option.bind_some]
  obtain ⟨w2, e2, t2, f2, a2, b2⟩ := pt
  obtain ⟨w3, e3, t3, f3, a3, b3⟩ := lp_rel (f := M_Strip_writeRounded_L16) (Po := fun w : gSt => tS w (tx V p) (txL p) ∧ FZ1 u w ∧ Wv w 40 (a * 10 ^ p % b) ∧ Wv w 41 b) (fun k (x : Int32 × Int32 × gSt) => x.1 = nI p ∧ x.2.1 = nI k ∧ tS x.2.2 (tx V p) (txL p - p + k) ∧ FZ1 u x.2.2 ∧ Wv x.2.2 40 (a * 10 ^ k % b) ∧ Wv x.2.2 41 b) p 0 p (by omega) (fun k x _ hk hx => by
    obtain ⟨x1, x2, y⟩ := x
    obtain ⟨rfl, rfl, ty, fy, ya, yb⟩ := hx
    have ty' : tS y (tx V p) (txL p - p + k) := ty
    have ya' : Wv y 40 (a * 10 ^ k % b) := ya
    have yb' : Wv y 41 b := yb
    obtain ⟨s1, s2, s3⟩ := v_step (a := a) (k := k) h0
    have hL9 := hL.2 (by omega)
    have fw : FW y (wr y 40 (a * 10 ^ k % b * 10)) := FW_w (Or.inl rfl)
    have hT : tx V p (txL p - p + k) = 48 + a * 10 ^ k % b * 10 / b := by
      unfold tx
      rw [if_neg (by omega), if_neg (by omega), s2, show p + 1 - (txL p - p + k) = p - (k + 1) by omega, hV, v_div h0 (by omega)]
    obtain ⟨w, ew, tw, fw2, aw, bw⟩ := d_next (wr_v (u := y) (wv10 hbb s3)) (wr_b (by decide) yb') h0 s3 (tS_W fw ty') (by omega) hT
    refine ⟨(nI p, nI (k + 1), w), ?_, rfl, rfl, tw, FZ1_t fy (FZ1_t (FZ1_W fw) fw2), by rw [← s1]; exact aw, bw⟩
    show M_Strip_writeRounded_b16 (nI p) (nI k) y = _
    unfold M_Strip_writeRounded_b16
    rw [if_neg (by rw [qi_le (by omega) (by omega)]; omega), show (10 : Int32) = nI 10 from rfl, p_multiply (r := 40) rfl rfl ya' (by decide), Option.bind_some, ew, Option.bind_some, show (1 : Int32) = nI 1 from rfl, qi_add]) (fun x hx => by
    obtain ⟨x1, x2, y⟩ := x
    obtain ⟨rfl, rfl, ty, fy, ya, yb⟩ := hx
    refine ⟨y, ?_, ?_, fy, ya, yb⟩
    · show M_Strip_writeRounded_b16 (nI p) (nI p) y = _
      unfold M_Strip_writeRounded_b16
      rw [if_pos ((qi_le (by omega) (by omega)).mpr (Nat.le_refl _))]
    · rw [show txL p - p + p = txL p by
        by_cases c : p = 0
        · omega
        · have := hL.2 c
          omega] at ty
      exact ty) (nI p, nI 0, w2) ⟨rfl, rfl, t2, f2, by rw [Nat.pow_zero, Nat.mul_one]; exact a2, b2⟩
  have hr : a * 10 ^ p % b < b := Nat.mod_lt _ h0
  have fw4 : FW w3 (wr w3 40 (a * 10 ^ p % b * 2)) := FW_w (Or.inl rfl)
  have a4 : Wv (wr w3 40 (a * 10 ^ p % b * 2)) 40 (a * 10 ^ p % b * 2) := wr_v (wv10 hbb (by omega))
  have b4 : Wv (wr w3 40 (a * 10 ^ p % b * 2)) 41 b := wr_b (by decide) b3
  have t4 := tS_W fw4 t3
  have f4 := FZ1_t f3 (FZ1_W fw4)
  have hlast : tx V p (txL p - 1) = 48 + V % 10 := by
    unfold tx
    by_cases c : p = 0
    · rw [hL.1 c, if_pos rfl, c, Nat.pow_zero, Nat.div_one]
    · rw [hL.2 c, if_neg (by omega), if_neg (by omega), show p + 1 - (p + 2 - 1) = 0 by omega, Nat.pow_zero, Nat.div_one]
  have e5 : M_Strip_writeRounded (nI p) u = if V % 2 = 1 then M_Strip_writeRounded_b89 (cmp (a * 10 ^ p % b * 2) b) 1 (wr w3 40 (a * 10 ^ p % b * 2)) else M_Strip_writeRounded_b89 (cmp (a * 10 ^ p % b * 2) b) 0 (wr w3 40 (a * 10 ^ p % b * 2)) := by
    rw [e2]
    unfold M_Strip_writeRounded_b14
    show ((gLp M_Strip_writeRounded_L16 (nI p, nI 0, w2)).bind _) = _
    rw [e3, Option.bind_some, show (2 : Int32) = nI 2 from rfl, p_multiply (r := 40) rfl rfl a3 (by decide), Option.bind_some, p_compare (a := 40) (b := 41) rfl rfl rfl rfl a4 b4, Option.bind_some]
    show (if (wr w3 40 (a * 10 ^ p % b * 2)).1 38 3 ≤ (0 : Int32) then _ else (gc (gIn ((wr w3 40 (a * 10 ^ p % b * 2)).1 38 3 - (1 : Int32)) (gLen 39)) <| if (wr w3 40 (a * 10 ^ p % b * 2)).2.2.1 39 (gIx ((wr w3 40 (a * 10 ^ p % b * 2)).1 38 3 - (1 : Int32))) - (wr w3 40 (a * 10 ^ p % b * 2)).2.2.1 39 (gIx ((wr w3 40 (a * 10 ^ p % b * 2)).1 38 3 - (1 : Int32))) / nI 2 * nI 2 = (1 : Int32) then M_Strip_writeRounded_b89 (cmp (a * 10 ^ p % b * 2) b) 1 (wr w3 40 (a * 10 ^ p % b * 2)) else M_Strip_writeRounded_b88 (cmp (a * 10 ^ p % b * 2) b) (wr w3 40 (a * 10 ^ p % b * 2)))) = _
    rw [t4.1, if_neg (by rw [qi_le0 (by omega)]; omega), show (1 : Int32) = nI 1 from rfl, pk_sub hL2.2, gc_t (qi_in (n := gLen 39) (by omega) (show txL p - 1 < 160 by omega)), qi_ix (by omega), t4.2 (txL p - 1) (by omega), hlast, pk_rem (by omega) (by decide) (by decide)]
    unfold M_Strip_writeRounded_b88
    by_cases c : V % 2 = 1
    · rw [if_pos c, if_pos ((qi_eq (by omega) (by omega)).mpr (by omega))]
    · rw [if_neg c, if_neg (by rw [qi_eq (by omega) (by omega)]; omega)]
  have e6 : M_Strip_writeRounded (nI p) u = if upV a b p = true then M_Strip_writeRounded_b102 (wr w3 40 (a * 10 ^ p % b * 2)) else some (wr w3 40 (a * 10 ^ p % b * 2)) := by
    rw [e5]
    unfold M_Strip_writeRounded_b89 M_Strip_writeRounded_b106 upV
    rw [← hV]
    by_cases c3 : V % 2 = 1
    · rw [if_pos c3]
      by_cases c1 : b < a * 10 ^ p % b * 2
      · rw [if_pos (cmp_pos.mpr c1), if_pos (decide_eq_true (Or.inl c1))]
      · rw [if_neg (show ¬ (0 : Int32) < cmp (a * 10 ^ p % b * 2) b by rw [cmp_pos]; exact c1)]
        by_cases c2 : a * 10 ^ p % b * 2 = b
        · rw [if_pos (cmp_eq.mpr c2), if_neg (show ¬ (1 : Int32) = 0 by decide), if_pos (decide_eq_true (Or.inr ⟨c2, c3⟩))]
        · rw [if_neg (show ¬ cmp (a * 10 ^ p % b * 2) b = (0 : Int32) by rw [cmp_eq]; exact c2), if_neg (show ¬ decide (b < a * 10 ^ p % b * 2 ∨ (a * 10 ^ p % b * 2 = b ∧ V % 2 = 1)) = true by rw [decide_eq_true_iff]; omega)]
    · rw [if_neg c3]
      by_cases c1 : b < a * 10 ^ p % b * 2
      · rw [if_pos (cmp_pos.mpr c1), if_pos (decide_eq_true (Or.inl c1))]
      · rw [if_neg (show ¬ (0 : Int32) < cmp (a * 10 ^ p % b * 2) b by rw [cmp_pos]; exact c1)]
        by_cases c2 : a * 10 ^ p % b * 2 = b
        · rw [if_pos (cmp_eq.mpr c2), if_pos rfl, if_neg (show ¬ decide (b < a * 10 ^ p % b * 2 ∨ (a * 10 ^ p % b * 2 = b ∧ V % 2 = 1)) = true by rw [decide_eq_true_iff]; omega)]
        · rw [if_neg (show ¬ cmp (a * 10 ^ p % b * 2) b = (0 : Int32) by rw [cmp_eq]; exact c2), if_neg (show ¬ decide (b < a * 10 ^ p % b * 2 ∨ (a * 10 ^ p % b * 2 = b ∧ V % 2 = 1)) = true by rw [decide_eq_true_iff]; omega)]
  rw [e6]
  unfold rnd
  rw [← hV]
  by_cases c : upV a b p = true
  · have hlt := up_lt h0 hab c
    rw [← hV] at hlt
    obtain ⟨w, ew, tw, fw⟩ := d_raise hp hlt t4
    refine ⟨w, ?_, by rw [if_pos c]; exact tw, FZ1_t f4 (FZ1_Y fw)⟩
    rw [if_pos c]
    unfold M_Strip_writeRounded_b102 M_Strip_writeRounded_b106
    rw [ew, Option.bind_some]
  · exact ⟨_, by rw [if_neg c], by rw [if_neg c]; exact t4, f4⟩
