/-! What a line does, on the model's side. -/
def MA (u : gSt) (s : GS) (T G : NS) : Prop := Mg u s ∧ Mn u 7 45 44 T ∧ Mn u 10 48 47 G ∧ ∀ i, i < n_c T → u.2.2.1 46 i = nI (n_o T i)
/-- the model's lists and tables alone have changed -/
def FM (u v : gSt) : Prop := (∀ a j, (a ≠ 42 ∨ j = 1 ∨ 25 ≤ j) → v.1 a j = u.1 a j) ∧ v.2.1 = u.2.1 ∧ (∀ a, (a < 44 ∨ 55 ≤ a) → v.2.2.1 a = u.2.2.1 a) ∧ v.2.2.2 = u.2.2.2
theorem FM_0 {u : gSt} : FM u u := ⟨fun _ _ _ => rfl, rfl, fun _ _ => rfl, rfl⟩
theorem FM_t {u v w : gSt} (h : FM u v) (k : FM v w) : FM u w := by
  obtain ⟨h1, h2, h3, h4⟩ := h
  obtain ⟨k1, k2, k3, k4⟩ := k
  exact ⟨fun a j ha => by rw [k1 a j ha, h1 a j ha], by rw [k2, h2], fun a ha => by rw [k3 a ha, h3 a ha], by rw [k4, h4]⟩
theorem FM_F {u : gSt} {j : Nat} {v : Int32} (h : j ≠ 1) (h2 : j < 25) : FM u (gsF u 42 j v) := by
  refine ⟨fun a i ha => ?_, rfl, fun _ _ => rfl, rfl⟩
  show (if a = 42 then (if i = j then v else u.1 a i) else u.1 a i) = _
  by_cases c : a = 42
  · rw [if_pos c, if_neg (by omega)]
  · rw [if_neg c]
theorem FM_R {u : gSt} {r : Nat} {F : Nat → Int32} (h : 44 ≤ r) (h2 : r < 55) : FM u (gsR u r F) := ⟨fun _ _ _ => rfl, rfl, fun a ha => gsR_b (by omega), rfl⟩
theorem FM_A {u : gSt} {r i : Nat} {v : Int32} (h : 44 ≤ r) (h2 : r < 55) : FM u (gsA u r i v) := by
  rw [gsA_R]
  exact FM_R h h2
theorem FM_ms {u : gSt} {k pl a w e : Int32} : FM u (ms u k pl a w e) := by
  refine ⟨fun b j hb => ?_, rfl, fun _ _ => rfl, rfl⟩
  show (if b = 42 then (if j = 2 then k else if j = 3 then pl else if j = 22 then a else if j = 23 then w else if j = 24 then e else u.1 b j) else u.1 b j) = _
  by_cases c : b = 42
  · rw [if_pos c, if_neg (by omega), if_neg (by omega), if_neg (by omega), if_neg (by omega), if_neg (by omega)]
  · rw [if_neg c]
theorem i8 : ∀ k, k < 128 → (nI k).toInt8.toInt32 = nI k := by decide +kernel
theorem cnt_set {P : Nat → Bool} {g : Nat} (hg : P g = false) : ∀ (k : Nat), cnt (fun h => P h || decide (h = g)) k = cnt P k + (if g < k then 1 else 0)
  | 0 => by
    rw [if_neg (by omega)]
    rfl
  | k + 1 => by
    show cnt (fun h => P h || decide (h = g)) k + (if (P k || decide (k = g)) then 1 else 0) = cnt P k + (if P k then 1 else 0) + _
    rw [cnt_set hg k]
    by_cases e : k = g
    · subst e
      rw [hg, decide_eq_true rfl, if_neg (show ¬ k < k by omega), if_pos (show k < k + 1 by omega)]
      rfl
    · rw [decide_eq_false e, Bool.or_false]
      by_cases c : g < k
      · rw [if_pos c, if_pos (show g < k + 1 by omega)]
        exact Nat.add_right_comm ..
      · rw [if_neg c, if_neg (show ¬ g < k + 1 by omega)]
        rfl
theorem q_old {u : gSt} {s : GS} {T G : NS} {t : Nat} (hm : MA u s T G) (ht : t < s_t s) : MA (gsA u 49 t 1) (s_old s t) T G := by
  obtain ⟨⟨m1, m2, m3, m4, m5, m6, m7, m8, m9, m10, m11, m12⟩, n1, n2, n3⟩ := hm
  refine ⟨⟨m1, m2, m3, m4, m5, m6, m7, m8, fun y hy => ?_, m10, m11, m12⟩, n1, n2, n3⟩
  show (if y = t then 1 else u.2.2.1 49 y) = b2i (s_ol s y || decide (y = t))
  by_cases e : y = t
  · rw [if_pos e, decide_eq_true e, Bool.or_true]
    rfl
  · rw [if_neg e, decide_eq_false e, Bool.or_false]
    exact m9 y hy
theorem q_stu0 {s : GS} {g : Nat} (h : s_st s g = true) : s_stu s g = s := by
  have e : (fun x => s_st s x || decide (x = g)) = s_st s := by
    funext x
    by_cases c : x = g
    · rw [c, h]
      rfl
    · rw [decide_eq_false c, Bool.or_false]
  show (s_t s, s_n s, s_lk s, s_ab s, s_nt s, s_ol s, (fun x => s_st s x || decide (x = g)), s_l s, s_c s) = s
  rw [e]
  rfl
theorem q_stu {u : gSt} {s : GS} {T G : NS} {g : Nat} (hm : MA u s T G) (hs : Gd s) (hg : g < s_n s) (h : s_st s g = false) : MA (gsF (gsA u 54 g 1) 42 21 (u.1 42 21 + 1)) (s_stu s g) T G := by
  have hn := hs.2.1
  obtain ⟨⟨m1, m2, m3, m4, m5, m6, m7, m8, m9, m10, m11, m12⟩, n1, n2, n3⟩ := hm
  refine ⟨⟨m1, m2, m3, m4, m5, m6, m7, m8, m9, fun y hy => ?_, ?_, m12⟩, n1, n2, n3⟩
  · show (if y = g then 1 else u.2.2.1 54 y) = b2i (s_st s y || decide (y = g))
    by_cases e : y = g
    · rw [if_pos e, decide_eq_true e, Bool.or_true]
      rfl
    · rw [if_neg e, decide_eq_false e, Bool.or_false]
      exact m10 y hy
  · show u.1 42 21 + nI 1 = nI (cnt (fun x => s_st s x || decide (x = g)) (s_n s))
    rw [cnt_set h, if_pos hg, m11, qi_add]
theorem q_not {u : gSt} {s : GS} {T G : NS} {g t : Nat} (hm : MA u s T G) (hs : Gd s) (hg : g < s_n s) (ht : t < s_t s) : MA (gsF (gsF (gsA u 52 (200 * g + t) 1) 42 19 (u.1 42 19 + 1)) 42 17 0) (s_not s g t) T G := by
  have h1 := hs.1
  have h2 := hs.2.1
  obtain ⟨⟨m1, m2, m3, m4, m5, m6, m7, m8, m9, m10, m11, m12⟩, n1, n2, n3⟩ := hm
  refine ⟨⟨m1, m2, m3, ?_, m5, m6, fun x y hx hy => ?_, fun h => absurd rfl h, m9, m10, m11, m12⟩, n1, n2, n3⟩
  · show u.1 42 19 + nI 1 = nI (s_c s + 1)
    rw [m4, qi_add]
  · show (if 200 * x + y = 200 * g + t then 1 else u.2.2.1 52 (200 * x + y)) = b2i (s_nt s x y || (decide (x = g) && decide (y = t)))
    by_cases e : x = g ∧ y = t
    · rw [if_pos (by omega), decide_eq_true e.1, decide_eq_true e.2, Bool.and_true, Bool.or_true]
      rfl
    · rw [if_neg (by omega)]
      have : (decide (x = g) && decide (y = t)) = false := by
        by_cases c : x = g
        · rw [decide_eq_false (fun h => e ⟨c, h⟩), Bool.and_false]
        · rw [decide_eq_false c, Bool.false_and]
      rw [this, Bool.or_false]
      exact m7 x y hx hy
/-- letters copied into a list of names -/
theorem q_addNameL {u : gSt} {Tx : Nat → Int32} {l b z c : Nat} {x3 : Int32} (hT : tM u Tx l) (hbz : b + z ≤ l) (ha : al Tx z b = true) (hz : z ≤ 12) (hc : u.1 42 7 = nI c) (hc2 : c < 300) : ∃ F, gLp M_Model_addName_L3 (nI b, nI z, x3, (0 : Int32), u) = some (nI z, x3, gsR u 44 F) ∧ (∀ i, ¬ (12 * c ≤ i ∧ i < 12 * c + z) → F i = u.2.2.1 44 i) ∧ ∀ k, k < z → F (12 * c + k) = Tx (b + k) := by
  have hl := hT.1
  refine ⟨fun i => if 12 * c ≤ i ∧ i < 12 * c + z then Tx (b + (i - 12 * c)) else u.2.2.1 44 i, ?_, fun i hi => if_neg hi, fun k hk => ?_⟩
  · have e0 : (nI b, nI z, x3, (0 : Int32), u) = (fun j => (nI b, nI z, x3, nI j, gsR u 44 (fun i => if 12 * c ≤ i ∧ i < 12 * c + j then Tx (b + (i - 12 * c)) else u.2.2.1 44 i))) 0 := by
      show _ = (nI b, nI z, x3, nI 0, gsR u 44 (fun i => if 12 * c ≤ i ∧ i < 12 * c + 0 then Tx (b + (i - 12 * c)) else u.2.2.1 44 i))
      rw [gsR_0]
      · rfl
      · funext i
        rw [if_neg (by omega)]
    rw [e0]
    refine lp_to (S := fun j => (nI b, nI z, x3, nI j, gsR u 44 (fun i => if 12 * c ≤ i ∧ i < 12 * c + j then Tx (b + (i - 12 * c)) else u.2.2.1 44 i))) (k := 0) (N := z) (Nat.zero_le _) (fun j _ hj => ?_) ?_
    · show M_Model_addName_b3 (nI b) (nI z) x3 (nI j) (gsR u 44 (fun i => if 12 * c ≤ i ∧ i < 12 * c + j then Tx (b + (i - 12 * c)) else u.2.2.1 44 i)) = some (Sum.inl (nI b, nI z, x3, nI (j + 1), gsR u 44 (fun i => if 12 * c ≤ i ∧ i < 12 * c + (j + 1) then Tx (b + (i - 12 * c)) else u.2.2.1 44 i)))
      obtain ⟨y, hy, y1, y2⟩ := isL_r (al_at _ _ ha j hj)
      unfold M_Model_addName_b3
      rw [if_neg (by rw [qi_le (by omega) (by omega)]; omega), qi_add, gc_t (qi_in (n := gLen 43) (by omega) (show b + j < 40000 by omega)), show (gsR u 44 (fun i => if 12 * c ≤ i ∧ i < 12 * c + j then Tx (b + (i - 12 * c)) else u.2.2.1 44 i)).1 42 7 = nI c from hc, show (12 : Int32) = nI 12 from rfl, qi_mul, qi_add, gc_t (qi_in (n := gLen 44) (by omega) (show 12 * c + j < 3600 by omega)), qi_ix (by omega), qi_ix (by omega), gsR_b (by decide), hT.2.2 (b + j) (by omega), hy, i8 y (by omega), Option.bind_some, gsA_R, gsR_R, gsR_a]
      show some (Sum.inl (nI b, nI z, x3, nI j + nI 1, _)) = _
      rw [qi_add]
      refine congrArg (fun f => some (Sum.inl (nI b, nI z, x3, nI (j + 1), gsR u 44 f))) ?_
      funext i
      show (if i = 12 * c + j then nI y else (if 12 * c ≤ i ∧ i < 12 * c + j then Tx (b + (i - 12 * c)) else u.2.2.1 44 i)) = _
      by_cases e : i = 12 * c + j
      · rw [if_pos e, if_pos (by omega), show i - 12 * c = j by omega, hy]
      · rw [if_neg e]
        by_cases e2 : 12 * c ≤ i ∧ i < 12 * c + j
        · rw [if_pos e2, if_pos (by omega)]
        · rw [if_neg e2, if_neg (by omega)]
    · show M_Model_addName_b3 (nI b) (nI z) x3 (nI z) _ = _
      unfold M_Model_addName_b3
      rw [if_pos ((qi_le (by omega) (by omega)).mpr (Nat.le_refl _))]
  · show (if 12 * c ≤ 12 * c + k ∧ 12 * c + k < 12 * c + z then Tx (b + (12 * c + k - 12 * c)) else u.2.2.1 44 (12 * c + k)) = _
    rw [if_pos (by omega), show 12 * c + k - 12 * c = k by omega]
theorem q_addName {u : gSt} {s : GS} {T G : NS} {Tx : Nat → Int32} {l b w o : Nat} (hm : MA u s T G) (hg : GA s T G) (hT : tM u Tx l) (hwl : w ≤ l) (hbw : b < w) (hn : nm Tx b w = true) (hc : n_c T < 300) : ∃ v, M_Model_addName (nI b) (nI (w - b)) (nI o) u = some v ∧ FM u v ∧ (v.1 42 2 = u.1 42 2 ∧ v.1 42 3 = u.1 42 3) ∧ MA v s (n_push T (w - b) (fun k => (Tx (b + k)).toInt.toNat) o) G := by
  unfold nm at hn
  rw [Bool.and_eq_true] at hn
  have h12 := of_decide_eq_true hn.1
  have ha := hn.2
  obtain ⟨⟨m1, m2, m3, m4, m5, m6, m7, m8, m9, m10, m11, m12⟩, n1, n2, n3⟩ := hm
  obtain ⟨F, e, f1, f2⟩ := q_addNameL (x3 := nI o) hT (by omega) ha h12 n1.1 hc
  refine ⟨gsF (gsA (gsA (gsR u 44 F) 45 (n_c T) (nI (w - b))) 46 (n_c T) (nI o)) 42 7 (nI (n_c T + 1)), ?_, ?_, ⟨rfl, rfl⟩, ⟨m1, m2, m3, m4, m5, m6, m7, m8, m9, m10, m11, m12⟩, ⟨rfl, fun i hi => ?_⟩, n2, fun i hi => ?_⟩
  · unfold M_Model_addName
    rw [e, Option.bind_some]
    show gc (gIn (u.1 42 7) (gLen 45)) (gc (gIn (u.1 42 7) (gLen 46)) (some (gsF (gsA (gsA (gsR u 44 F) 45 (gIx (u.1 42 7)) (nI (w - b))) 46 (gIx (u.1 42 7)) (nI o)) 42 7 (u.1 42 7 + nI 1)))) = _
    rw [n1.1, gc_t (qi_in (n := gLen 45) (by omega) (show n_c T < 300 from hc)), gc_t (qi_in (n := gLen 46) (by omega) (show n_c T < 300 from hc)), qi_ix (by omega), qi_add]
  · exact FM_t (FM_t (FM_t (FM_R (by decide) (by decide)) (FM_A (by decide) (by decide))) (FM_A (by decide) (by decide))) (FM_F (by decide) (by decide))
  · have hi' : i < n_c T + 1 := hi
    show (if i = n_c T then nI (w - b) else u.2.2.1 45 i) = nI (if i = n_c T then w - b else n_z T i) ∧ ∀ k, k < (if i = n_c T then w - b else n_z T i) → F (12 * i + k) = nI ((if i = n_c T then (fun k => (Tx (b + k)).toInt.toNat) else n_l T i) k)
    by_cases e9 : i = n_c T
    · simp only [if_pos e9]
      refine ⟨trivial, fun k hk => ?_⟩
      rw [e9, f2 k hk]
      obtain ⟨y, hy, y1, y2⟩ := isL_r (al_at _ _ ha k hk)
      rw [hy, nI_toInt (by omega)]
      congr 1
    · simp only [if_neg e9]
      obtain ⟨a1, a2⟩ := n1.2 i (by omega)
      have hz := (hg.2.1.1 i (by omega)).2.1
      refine ⟨a1, fun k hk => ?_⟩
      rw [f1 (12 * i + k) (by omega)]
      exact a2 k hk
  · have hi' : i < n_c T + 1 := hi
    show (if i = n_c T then nI o else u.2.2.1 46 i) = nI (if i = n_c T then o else n_o T i)
    by_cases e9 : i = n_c T
    · rw [if_pos e9, if_pos e9]
    · rw [if_neg e9, if_neg e9]
      exact n3 i (by omega)
theorem q_add {u : gSt} {s : GS} {T G : NS} (hm : MA u s T G) (hs : Gd s) (ht : s_t s < 200) : MA (gsF (gsA u 49 (s_t s) 0) 42 11 (nI (s_t s + 1))) (s_add s) T G := by
  obtain ⟨h1, h2, h3, h4, h5, h6, h7, h8, h9, h10, h11⟩ := hs
  have hs : Gd s := ⟨h1, h2, h3, h4, h5, h6, h7, h8, h9, h10, h11⟩
  obtain ⟨⟨m1, m2, m3, m4, m5, m6, m7, m8, m9, m10, m11, m12⟩, n1, n2, n3⟩ := hm
  refine ⟨⟨rfl, m2, m3, m4, m5, m6, m7, fun hk g y hg hy => ?_, fun y hy => ?_, m10, m11, fun g y hg hy hy2 => m12 g y hg hy (Nat.le_of_succ_le hy2)⟩, n1, n2, n3⟩
  · rw [av_add hs]
    have hy' : y < s_t s + 1 := hy
    have hg' : g < s_n s := hg
    by_cases e : y = s_t s
    · have e1 : s_av s g y = false := by
        cases c : s_av s g y with
        | false => rfl
        | true =>
          have := (av_lt hs c).2
          omega
      rw [e1]
      exact m12 g y (by omega) (by omega) (by omega)
    · exact m8 hk g y hg (by omega)
  · have hy' : y < s_t s + 1 := hy
    show (if y = s_t s then 0 else u.2.2.1 49 y) = b2i (s_ol s y)
    by_cases e : y = s_t s
    · have e1 : s_ol s y = false := by
        cases c : s_ol s y with
        | false => rfl
        | true =>
          have := h8 y c
          omega
      rw [if_pos e, e1]
      rfl
    · rw [if_neg e]
      exact m9 y (by omega)
