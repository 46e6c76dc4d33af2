/-! The class's print. -/
set_option maxHeartbeats 1000000 in
theorem d_just {u : gSt} {a b N n p c1 c2 : Nat} (ha : Wv u 40 a) (hb : Wv u 41 b) (h0 : 0 < a) (hab : a ≤ b) (hN : n ≤ N) (hN2 : N ≤ 200) (hp0 : 0 < p) (hp : p ≤ 200) (hbe : b = ch N n * p) (h1 : 1 ≤ c1) (hX1 : 10 ^ (c1 - 1) ≤ a / Nat.gcd a b) (hX2 : a / Nat.gcd a b < 10 ^ c1) (hY1 : 10 ^ (c2 - 1) ≤ b / Nat.gcd a b) (hY2 : b / Nat.gcd a b < 10 ^ c2) (hc : c1 + 1 + c2 ≤ 160) (h3 : u.1 38 3 = nI 0) : ∃ w, M_Strip_writeJust u = some w ∧ tS w (jT (a / Nat.gcd a b) (b / Nat.gcd a b) c1 c2) (jL (b / Nat.gcd a b) c1 c2) ∧ FZ1 u w := by
  have hbb : b ≤ 2 ^ 200 * 200 := by
    rw [hbe]
    exact Nat.mul_le_mul (ch_200 hN2) hp
  have h240 : a < 2 ^ 240 := Nat.lt_of_le_of_lt (Nat.le_trans hab hbb) (by decide)
  obtain ⟨w1, e1, f1, a1, b1⟩ := d_reduce ha hb h0 h240 hN hN2 hp0 hp hbe
  have l1 := low_1 h0 hab
  have l2 := low_ne (b := b) h0
  generalize a / Nat.gcd a b = X at hX1 hX2 a1 l1 l2 ⊢
  generalize b / Nat.gcd a b = Y at hY1 hY2 b1 l1 l2 ⊢
  have t0 : tS w1 (jT X Y c1 c2) 0 := ⟨by rw [f1.1]; exact h3, fun i hi => by omega⟩
  have e : M_Strip_writeJust u = if cmp X Y = (0 : Int32) then (M_Strip_write (nI 49) w1).bind fun q21 => some q21 else (M_Strip_writeWhole 40 w1).bind fun q30 => (M_Strip_write (nI 47) q30).bind fun q36 => (M_Strip_writeWhole 41 q36).bind fun q44 => some q44 := by
    unfold M_Strip_writeJust
    rw [e1, Option.bind_some, p_compare (a := 40) (b := 41) rfl rfl rfl rfl a1 b1]
    rfl
  rw [e]
  by_cases cY : Y = 1
  · have cX := l1 cY
    obtain ⟨k1, k2⟩ := jT_0 (Y := Y) (c2 := c2) cX h1 hX1
    obtain ⟨w2, e2, t2, f2⟩ := d_write (c := 49) t0 (by decide) (by decide) k2
    refine ⟨w2, ?_, ?_, FZ1_t (FZ1_W f1) (FZ1_Y f2)⟩
    · rw [if_pos (cmp_eq.mpr (by rw [cX, cY])), e2]
      rfl
    · unfold jL
      rw [if_pos cY]
      exact t2
  · have hne := l2 cY
    have T1 : ∀ k, k < c1 → jT X Y c1 c2 (0 + k) = 48 + X / 10 ^ (c1 - 1 - k) % 10 := fun k hk => by
      unfold jT
      rw [Nat.zero_add, if_pos hk]
    have T2 : jT X Y c1 c2 (0 + c1) = 47 := by
      unfold jT
      rw [Nat.zero_add, if_neg (Nat.lt_irrefl _), if_pos rfl]
    have T3 : ∀ k, k < c2 → jT X Y c1 c2 (0 + c1 + 1 + k) = 48 + Y / 10 ^ (c2 - 1 - k) % 10 := fun k hk => by
      unfold jT
      rw [if_neg (by omega), if_neg (by omega), show 0 + c1 + 1 + k - (c1 + 1) = k by omega]
    obtain ⟨w2, e2, t2, f2⟩ := d_whole (Or.inl rfl) a1 hX2 hX1 (by omega) T1 t0
    obtain ⟨w3, e3, t3, f3⟩ := d_write (c := 47) t2 (by omega) (by decide) T2
    obtain ⟨w4, e4, t4, f4⟩ := d_whole (Or.inr rfl) (Wv_Y f3 (by decide) (Wv_Y f2 (by decide) b1)) hY2 hY1 (by omega) T3 t3
    refine ⟨w4, ?_, ?_, FZ1_t (FZ1_W f1) (FZ1_Y (FY_t f2 (FY_t f3 f4)))⟩
    · rw [if_neg (by rw [cmp_eq]; exact hne), e2, Option.bind_some, e3, Option.bind_some, e4]
      rfl
    · unfold jL
      rw [if_neg cY, show c1 + 1 + c2 = 0 + c1 + 1 + c2 by omega]
      exact t4
theorem d_take {u : gSt} {s A a p : Nat} (hs : s < 800) (hw : Wv u 33 A) (hA : A ≤ 2 ^ 200) (hS : Sl u s a p) : ∃ w, M_Strip_take (67 + s) 33 (nI p) u = some w ∧ FZ1 u w ∧ Wv w 40 a ∧ Wv w 41 (A * p) ∧ w.1 38 3 = nI 0 := by
  obtain ⟨s1, s2, s3, s4, s5⟩ := hS
  have k1 : Wv (wr u 40 a) 40 a := wr_v s1.1
  have k2 : Wv (wr u 40 a) 33 A := wr_b (by decide) hw
  have k3 : Wv (wr (wr u 40 a) 41 A) 41 A := wr_v hw.1
  have k4 : Wv (wr (wr u 40 a) 41 A) 40 a := wr_b (by decide) k1
  have hAp : A * p < 1000000000 ^ 8 := Nat.lt_of_le_of_lt (Nat.mul_le_mul hA s4) (by decide)
  have k5 : Wv (wr (wr (wr u 40 a) 41 A) 41 (A * p)) 41 (A * p) := wr_v hAp
  have k6 : Wv (wr (wr (wr u 40 a) 41 A) 41 (A * p)) 40 a := wr_b (by decide) k4
  refine ⟨gsF (wr (wr (wr u 40 a) 41 A) 41 (A * p)) 38 3 (nI 0), ?_, ?_, k6, k5, gF_a⟩
  · unfold M_Strip_take
    rw [p_copy (gK_s hs) rfl gLen_s rfl s1, Option.bind_some, p_copy rfl rfl rfl rfl k2, Option.bind_some, p_multiply rfl rfl k3 (by omega), Option.bind_some]
    rfl
  · have f : FW u (wr (wr (wr u 40 a) 41 A) 41 (A * p)) := FW_t (FW_w (Or.inl rfl)) (FW_t (FW_w (Or.inr rfl)) (FW_w (Or.inr rfl)))
    exact ⟨fun x j h => by rw [gF_o h, f.1], f.2.1, fun x _ h2 h3 => f.2.2.1 x h2 h3, f.2.2.2⟩
set_option maxHeartbeats 1000000 in
theorem d_print {u : gSt} {i v c a p A N n c1 c2 : Nat} {x3 : Int32} (hP : P_Ranking_hasRow (nI i) u = some 1) (hH : M_Ranking_hasRow (nI i) u = some (1, u)) (hi : i < 200) (hv : v < 4) (hA : A = ch N n) (hN : n ≤ N) (hN2 : N ≤ 200) (hc : c < 200) (e35 : u.2.2.1 35 i = nI c) (hw : Wv u 33 A) (hS : Sl u (200 * v + c) a p) (h0 : 0 < a) (hap : a ≤ A * p) (hx1 : ¬ x3 < (-1 : Int32)) (hx2 : x3 ≤ (40 : Int32)) (h1 : 1 ≤ c1) (hX1 : 10 ^ (c1 - 1) ≤ a / Nat.gcd a (A * p)) (hX2 : a / Nat.gcd a (A * p) < 10 ^ c1) (hY1 : 10 ^ (c2 - 1) ≤ A * p / Nat.gcd a (A * p)) (hY2 : A * p / Nat.gcd a (A * p) < 10 ^ c2) (hcc : c1 + 1 + c2 ≤ 160) : ∃ w m T, M_Law_print (nI i) (nI v) x3 u = some (0, gsL w 66 0 (nI m).toInt64) ∧ tS w T m ∧ FZ1 u w ∧ (x3 = -1 → m = jL (A * p / Nat.gcd a (A * p)) c1 c2 ∧ T = jT (a / Nat.gcd a (A * p)) (A * p / Nat.gcd a (A * p)) c1 c2) ∧ (¬ x3 = -1 → ∃ q, x3 = nI q ∧ q ≤ 40 ∧ m = txL q ∧ T = tx (rnd a (A * p) q) q) := by
  have hA2 : A ≤ 2 ^ 200 := by
    rw [hA]
    exact ch_200 hN2
  obtain ⟨s1, s2, s3, s4, s5⟩ := hS
  obtain ⟨t, et, ft, t40, t41, t38⟩ := d_take (s := 200 * v + c) (by omega) hw hA2 ⟨s1, s2, s3, s4, s5⟩
  have n1 : ¬ nI v < (0 : Int32) := by
    rw [show (0 : Int32) = nI 0 from rfl, qi_lt (by omega) (by omega)]
    omega
  have n2 : ¬ (4 : Int32) ≤ nI v := by
    rw [show (4 : Int32) = nI 4 from rfl, qi_le (by omega) (by omega)]
    omega
  have hE : E_Desk_print (nI i) (nI v) x3 u = none := by
    unfold E_Desk_print
    rw [hP, Option.bind_some, if_neg (show ¬ (1 : Int32) = 0 by decide), if_neg n1, if_neg n2, if_neg hx1, if_pos hx2, gc_t (qi_in (n := gLen 35) (by omega) (show i < 200 from hi))]
  have hsl : M_Ranking_slot (nI v) (nI c) u = some (nI (200 * v + c), u) := by
    unfold M_Ranking_slot
    rw [show (200 : Int32) = nI 200 from rfl, qi_mul, qi_add, Nat.mul_comm]
  have hM : M_Desk_print (nI i) (nI v) x3 u = if x3 = (-1 : Int32) then (M_Strip_writeJust t).bind fun q109 => M_Desk_print_b123 q109 else (M_Strip_writeRounded x3 t).bind fun q120 => M_Desk_print_b123 q120 := by
    unfold M_Desk_print
    rw [hH, Option.bind_some, if_neg (show ¬ (1 : Int32) = 0 by decide), if_neg n1, if_neg n2, if_neg hx1, if_pos hx2, gc_t (qi_in (n := gLen 35) (by omega) (show i < 200 from hi)), qi_ix (show i < 2147483648 by omega)]
    show ((M_Ranking_slot (nI v) (u.2.2.1 35 i) u).bind _) = _
    rw [e35, hsl, Option.bind_some]
    show (gc (gIn (nI (200 * v + c)) (gLen 31)) <| (gAR 31 (gIx (nI (200 * v + c)))).bind fun r79 => gc (gIn (nI (200 * v + c)) (gLen 32)) <| (M_Strip_take r79 33 (u.2.2.1 32 (gIx (nI (200 * v + c)))) u).bind fun q97 => if x3 = (-1 : Int32) then (M_Strip_writeJust q97).bind fun q109 => M_Desk_print_b123 q109 else (M_Strip_writeRounded x3 q97).bind fun q120 => M_Desk_print_b123 q120) = _
    rw [gc_t (qi_in (n := gLen 31) (by omega) (show 200 * v + c < 800 by omega)), qi_ix (show 200 * v + c < 2147483648 by omega), gAR_s (show 200 * v + c < 800 by omega), Option.bind_some, gc_t (qi_in (n := gLen 32) (by omega) (show 200 * v + c < 800 by omega)), s2, et, Option.bind_some]
  have hcls : ∀ (m : Nat) (w : gSt), w.1 38 3 = nI m → M_Desk_print (nI i) (nI v) x3 u = M_Desk_print_b123 w → M_Law_print (nI i) (nI v) x3 u = some ((0 : Int32), gsL w 66 0 (nI m).toInt64) := fun m w k1 k2 => by
    unfold M_Law_print
    rw [hE]
    show (M_Desk_print (nI i) (nI v) x3 u).bind _ = _
    rw [k2]
    unfold M_Desk_print_b123
    rw [k1]
    rfl
  by_cases c3 : x3 = (-1 : Int32)
  · obtain ⟨w, ew, tw, fw⟩ := d_just t40 t41 h0 hap hN hN2 s3 s4 (by rw [hA]) h1 hX1 hX2 hY1 hY2 hcc t38
    refine ⟨w, _, _, hcls _ w tw.1 ?_, tw, FZ1_t ft fw, fun _ => ⟨rfl, rfl⟩, fun h => absurd c3 h⟩
    rw [hM, if_pos c3, ew, Option.bind_some]
  · obtain ⟨q, hq, rfl⟩ := nI_of (x := x3) (by
      rw [Int32.lt_iff_toInt_lt, show (-1 : Int32).toInt = -1 from rfl] at hx1
      rw [Int32.lt_iff_toInt_lt, Int32.toInt_zero]
      intro h9
      exact c3 (Int32.toInt_inj.mp (by rw [show (-1 : Int32).toInt = -1 from rfl]; omega)))
    have hq40 : q ≤ 40 := by
      rw [show (40 : Int32) = nI 40 from rfl, qi_le hq (by omega)] at hx2
      exact hx2
    have hbb : A * p ≤ 2 ^ 200 * 200 := Nat.mul_le_mul hA2 s4
    obtain ⟨w, ew, tw, fw⟩ := d_rounded t40 t41 (Nat.lt_of_lt_of_le h0 hap) hap hbb hq40 t38
    refine ⟨w, _, _, hcls _ w tw.1 ?_, tw, FZ1_t ft fw, fun h => absurd h c3, fun _ => ⟨q, rfl, hq40, rfl, rfl⟩⟩
    rw [hM, if_neg c3, ew, Option.bind_some]
