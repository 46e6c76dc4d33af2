/-! Words on the model's side; letters; names of a word. -/
/-- the model in the midst of a line -/
def ms (u : gSt) (k pl a w e : Int32) : gSt := (fun x j => if x = 42 then (if j = 2 then k else if j = 3 then pl else if j = 22 then a else if j = 23 then w else if j = 24 then e else u.1 x j) else u.1 x j, u.2)
theorem ms_0 {u : gSt} : u = ms u (u.1 42 2) (u.1 42 3) (u.1 42 22) (u.1 42 23) (u.1 42 24) := by
  obtain ⟨u1, u2⟩ := u
  unfold ms
  refine Prod.ext (funext fun a => funext fun j => ?_) rfl
  by_cases h1 : a = 42
  · subst h1
    by_cases h2 : j = 2
    · subst h2; rfl
    · by_cases h3 : j = 3
      · subst h3; rfl
      · by_cases h4 : j = 22
        · subst h4; rfl
        · by_cases h5 : j = 23
          · subst h5; rfl
          · by_cases h6 : j = 24
            · subst h6; rfl
            · simp [h2, h3, h4, h5, h6]
  · simp [h1]
theorem ms_k {u : gSt} {k pl a w e x : Int32} : gsF (ms u k pl a w e) 42 2 x = ms u x pl a w e := by
  unfold gsF ms
  refine Prod.ext (funext fun b => funext fun j => ?_) rfl
  by_cases h1 : b = 42 <;> by_cases h2 : j = 2 <;> simp [h1, h2]
theorem ms_pl {u : gSt} {k pl a w e x : Int32} : gsF (ms u k pl a w e) 42 3 x = ms u k x a w e := by
  unfold gsF ms
  refine Prod.ext (funext fun b => funext fun j => ?_) rfl
  by_cases h1 : b = 42 <;> by_cases h2 : j = 3 <;> simp [h1, h2]
theorem ms_a {u : gSt} {k pl a w e x : Int32} : gsF (ms u k pl a w e) 42 22 x = ms u k pl x w e := by
  unfold gsF ms
  refine Prod.ext (funext fun b => funext fun j => ?_) rfl
  by_cases h1 : b = 42 <;> by_cases h2 : j = 22 <;> simp [h1, h2]
theorem ms_w {u : gSt} {k pl a w e x : Int32} : gsF (ms u k pl a w e) 42 23 x = ms u k pl a x e := by
  unfold gsF ms
  refine Prod.ext (funext fun b => funext fun j => ?_) rfl
  by_cases h1 : b = 42 <;> by_cases h2 : j = 23 <;> simp [h1, h2]
theorem ms_e {u : gSt} {k pl a w e x : Int32} : gsF (ms u k pl a w e) 42 24 x = ms u k pl a w x := by
  unfold gsF ms
  refine Prod.ext (funext fun b => funext fun j => ?_) rfl
  by_cases h1 : b = 42 <;> by_cases h2 : j = 24 <;> simp [h1, h2]
theorem p_stop {u : gSt} {pl a w e x y : Int32} : M_Model_stop x y (ms u 0 pl a w e) = some (0, ms u x y a w e) := by
  unfold M_Model_stop M_Model_stop_b17
  rw [if_pos (show (ms u 0 pl a w e).1 42 2 = 0 from rfl)]
  show some ((0 : Int32), gsF (gsF (ms u 0 pl a w e) 42 2 x) 42 3 y) = _
  rw [ms_k, ms_pl]
theorem p_stop1 {u : gSt} {k pl a w e x y : Int32} (hk : ¬ k = 0) : M_Model_stop x y (ms u k pl a w e) = some (0, ms u k pl a w e) := by
  unfold M_Model_stop M_Model_stop_b17
  rw [if_neg (show ¬ (ms u k pl a w e).1 42 2 = 0 from hk)]
/-- the model's text -/
def tM (u : gSt) (T : Nat → Int32) (l : Nat) : Prop := l ≤ 40000 ∧ u.1 42 1 = nI l ∧ ∀ i, i < l → u.2.2.1 43 i = T i
theorem p_nextL {T : Nat → Int32} {u : gSt} {l e : Nat} {k pl a : Int32} (hT : tM u T l) (he : e ≤ l) : ∀ (d b : Nat), b + d = e → gLp M_Model_next_L39 (ms u k pl a (nI b) (nI e)) = some (ms u k pl a (nI (wd T 32 d b)) (nI e))
  | 0, b, h => by
    have hl := hT.1
    refine gLp_done ?_
    show M_Model_next_b39 (ms u k pl a (nI b) (nI e)) = _
    unfold M_Model_next_b39
    exact if_pos (show nI e ≤ nI b from (qi_le (by omega) (by omega)).mpr (by omega))
  | d + 1, b, h => by
    have hl := hT.1
    have hs : M_Model_next_L39 (ms u k pl a (nI b) (nI e)) = if T b = 32 then some (.inr (ms u k pl a (nI b) (nI e))) else some (.inl (ms u k pl a (nI (b + 1)) (nI e))) := by
      show M_Model_next_b39 (ms u k pl a (nI b) (nI e)) = _
      unfold M_Model_next_b39
      show (if nI e ≤ nI b then _ else _) = _
      rw [if_neg (show ¬ nI e ≤ nI b by rw [qi_le (by omega) (by omega)]; omega)]
      show gc (gIn (nI b) (gLen 43)) (if u.2.2.1 43 (gIx (nI b)) = 32 then _ else some (Sum.inl (gsF (ms u k pl a (nI b) (nI e)) 42 23 (nI b + nI 1)))) = _
      rw [gc_t (qi_in (n := gLen 43) (by omega) (show b < 40000 by omega)), qi_ix (by omega), hT.2.2 b (by omega), qi_add, ms_w]
    unfold wd
    by_cases c : T b = 32
    · rw [if_pos c] at hs ⊢
      exact gLp_done hs
    · rw [if_neg c] at hs ⊢
      rw [gLp_next hs]
      exact p_nextL hT he d (b + 1) (by omega)
/-- next, without a word more -/
theorem p_next0 {u : gSt} {pl a w : Int32} : M_Model_next (ms u 0 pl a w w) = some (0, ms u 1 w a w w) := by
  unfold M_Model_next
  rw [if_pos (show (ms u 0 pl a w w).1 42 23 = (ms u 0 pl a w w).1 42 24 from rfl)]
  show (M_Model_stop 1 w (ms u 0 pl a w w)).bind _ = _
  rw [p_stop]
  rfl
theorem p_next {T : Nat → Int32} {u : gSt} {l e c : Nat} {pl a : Int32} (hT : tM u T l) (he : e ≤ l) (hc : c < e) : M_Model_next (ms u 0 pl a (nI c) (nI e)) = if c + 1 < wd T 32 (e - (c + 1)) (c + 1) then some (1, ms u 0 pl (nI (c + 1)) (nI (wd T 32 (e - (c + 1)) (c + 1))) (nI e)) else some (0, ms u 1 (nI (c + 1)) (nI (c + 1)) (nI (wd T 32 (e - (c + 1)) (c + 1))) (nI e)) := by
  have hl := hT.1
  have hw := wd_ge (T := T) (c := 32) (e - (c + 1)) (c + 1)
  unfold M_Model_next
  show (if nI c = nI e then _ else _) = _
  rw [if_neg (show ¬ nI c = nI e by rw [qi_eq (by omega) (by omega)]; omega)]
  show (gLp M_Model_next_L39 (gsF (gsF (ms u 0 pl a (nI c) (nI e)) 42 22 (nI c + nI 1)) 42 23 ((gsF (ms u 0 pl a (nI c) (nI e)) 42 22 (nI c + nI 1)).1 42 22))).bind _ = _
  rw [qi_add, ms_a]
  show (gLp M_Model_next_L39 (gsF (ms u 0 pl (nI (c + 1)) (nI c) (nI e)) 42 23 (nI (c + 1)))).bind _ = _
  rw [ms_w, p_nextL hT he (e - (c + 1)) (c + 1) (by omega), Option.bind_some]
  generalize wd T 32 (e - (c + 1)) (c + 1) = z at hw ⊢
  show (if nI (c + 1) < nI z then M_Model_next_b100 (ms u 0 pl (nI (c + 1)) (nI z) (nI e)) else (M_Model_stop 1 (nI (c + 1)) (ms u 0 pl (nI (c + 1)) (nI z) (nI e))).bind _) = _
  by_cases h : c + 1 < z
  · rw [if_pos ((qi_lt (by omega) (by omega)).mpr h), if_pos h]
    rfl
  · rw [if_neg (by rw [qi_lt (by omega) (by omega)]; exact h), if_neg h, p_stop]
    rfl
/-- a letter of names -/
def isL (c : Int32) : Bool := decide ((97 ≤ c.toInt ∧ c.toInt ≤ 122) ∨ (65 ≤ c.toInt ∧ c.toInt ≤ 90) ∨ (48 ≤ c.toInt ∧ c.toInt ≤ 57) ∨ c.toInt = 95 ∨ c.toInt = 58)
theorem isL_D {c : Int32} {u : gSt} : M_Text_isNameLetter c u = some (b2i (isL c), u) := by
  unfold M_Text_isNameLetter M_Text_isNameLetter_b12 M_Text_isNameLetter_b24 M_Text_isNameLetter_b36 M_Text_isNameLetter_b48 M_Text_isNameLetter_b53 isL
  simp only [Int32.lt_iff_toInt_lt, Int32.le_iff_toInt_le, ← Int32.toInt_inj, show (97 : Int32).toInt = 97 from rfl, show (122 : Int32).toInt = 122 from rfl, show (65 : Int32).toInt = 65 from rfl, show (90 : Int32).toInt = 90 from rfl, show (48 : Int32).toInt = 48 from rfl, show (57 : Int32).toInt = 57 from rfl, show (95 : Int32).toInt = 95 from rfl, show (58 : Int32).toInt = 58 from rfl]
  generalize c.toInt = z
  have t : gc (gZ 1) (some ((1 : Int32), u)) = some ((1 : Int32), u) := rfl
  have f : gc (gZ 0) (some ((0 : Int32), u)) = some ((0 : Int32), u) := rfl
  rw [t, f]
  by_cases h : (97 ≤ z ∧ z ≤ 122) ∨ (65 ≤ z ∧ z ≤ 90) ∨ (48 ≤ z ∧ z ≤ 57) ∨ z = 95 ∨ z = 58
  · rw [decide_eq_true h]
    show _ = some ((1 : Int32), u)
    repeat' split
    all_goals first | rfl | (exfalso; omega)
  · rw [decide_eq_false h]
    show _ = some ((0 : Int32), u)
    repeat' split
    all_goals first | rfl | (exfalso; omega)
theorem isL_M {c : Int32} {u : gSt} : M_Model_isLetter c u = some (b2i (isL c), u) := isL_D
theorem isL_r {c : Int32} (h : isL c = true) : ∃ k : Nat, c = nI k ∧ 48 ≤ k ∧ k < 123 := by
  have h1 := of_decide_eq_true h
  refine ⟨c.toInt.toNat, ?_, by omega, by omega⟩
  rw [← Int32.toInt_inj, nI_toInt (by omega)]
  omega
/-- d letters from b on -/
def al (T : Nat → Int32) : Nat → Nat → Bool
  | 0, _ => true
  | d + 1, b => isL (T b) && al T d (b + 1)
theorem al_at {T : Nat → Int32} : ∀ (d b : Nat), al T d b = true → ∀ i, i < d → isL (T (b + i)) = true
  | 0, _, _, i, h => by omega
  | d + 1, b, h, i, hi => by
    unfold al at h
    rw [Bool.and_eq_true] at h
    cases i with
    | zero => exact h.1
    | succ i =>
      rw [show b + (i + 1) = b + 1 + i by omega]
      exact al_at d (b + 1) h.2 i (by omega)
theorem p_nameL {T : Nat → Int32} {u : gSt} {l w : Nat} (hT : tD u T l) (hw : u.1 2 5 = nI w) (hl : w ≤ l) : ∀ (d b : Nat), b + d = w → gLp M_Text_wordIsName_L24 (nI b, u) = some (if al T d b = true then .inl u else .inr u)
  | 0, b, h => by
    have h4 := hT.1
    refine gLp_done ?_
    show M_Text_wordIsName_b24 (nI b) u = _
    unfold M_Text_wordIsName_b24
    rw [hw, if_pos ((qi_le (by omega) (by omega)).mpr (by omega))]
    rfl
  | d + 1, b, h => by
    have h4 := hT.1
    have hs : M_Text_wordIsName_L24 (nI b, u) = if isL (T b) = true then some (.inl (nI (b + 1), u)) else some (.inr (.inr u)) := by
      show M_Text_wordIsName_b24 (nI b) u = _
      unfold M_Text_wordIsName_b24
      rw [hw, if_neg (by rw [qi_le (by omega) (by omega)]; omega), gc_t (qi_in (n := gLen 3) (by omega) (show b < 40000 by omega)), qi_ix (by omega), hT.2.2 b (by omega), isL_D, Option.bind_some]
      cases isL (T b) with
      | true =>
        rw [if_pos (show true = true from rfl), if_neg (show ¬ b2i true = 0 by decide)]
        show some (Sum.inl (nI b + nI 1, u)) = _
        rw [qi_add]
      | false => rfl
    unfold al
    cases c : isL (T b) with
    | true =>
      rw [c, if_pos rfl] at hs
      rw [gLp_next hs, p_nameL hT hw hl d (b + 1) (by omega), Bool.true_and]
    | false =>
      rw [c, if_neg (by decide)] at hs
      rw [gLp_done hs, Bool.false_and]
      rfl
/-- a name: 1 to 12 letters -/
def nm (T : Nat → Int32) (b w : Nat) : Bool := decide (w - b ≤ 12) && al T (w - b) b
theorem qi_sub {a b : Nat} (h : b ≤ a) (_ : a < 2147483648) : nI a - nI b = nI (a - b) := pk_sub h
theorem p_isName {T : Nat → Int32} {u : gSt} {l b w : Nat} (hT : tD u T l) (hb : u.1 2 4 = nI b) (hw : u.1 2 5 = nI w) (hl : w ≤ l) (h : b < w) : M_Text_wordIsName u = some (b2i (nm T b w), u) := by
  have h4 := hT.1
  have hlen : M_Text_wordLength u = some (nI (w - b), u) := by
    unfold M_Text_wordLength
    rw [hb, hw, qi_sub (by omega) (by omega)]
  unfold M_Text_wordIsName M_Text_wordIsName_b17 nm
  rw [hlen, Option.bind_some, if_neg (show ¬ nI (w - b) < (1 : Int32) by rw [show (1 : Int32) = nI 1 from rfl, qi_lt (by omega) (by omega)]; omega)]
  show ((M_Text_wordLength u).bind _) = _
  rw [hlen, Option.bind_some]
  show (if nI (w - b) ≤ (12 : Int32) then ((gLp M_Text_wordIsName_L24 (u.1 2 4, u)).bind _) else _) = _
  by_cases c : w - b ≤ 12
  · rw [if_pos (show nI (w - b) ≤ (12 : Int32) from (qi_le (b := 12) (by omega) (by omega)).mpr c), hb, p_nameL hT hw hl (w - b) b (by omega), decide_eq_true c, Bool.true_and, Option.bind_some]
    cases al T (w - b) b <;> rfl
  · rw [if_neg (show ¬ nI (w - b) ≤ (12 : Int32) by rw [show (12 : Int32) = nI 12 from rfl, qi_le (by omega) (by omega)]; exact c), decide_eq_false c]
    rfl
theorem p_mnameL {T : Nat → Int32} {u : gSt} {l w : Nat} (hT : tM u T l) (hw : u.1 42 23 = nI w) (hl : w ≤ l) : ∀ (d b : Nat) (fl : Bool), b + d = w → gLp M_Model_isName_L25 (b2i fl, nI b, u) = some (b2i (fl && al T d b), u)
  | 0, b, fl, h => by
    have h4 := hT.1
    refine gLp_done ?_
    show M_Model_isName_b25 (b2i fl) (nI b) u = _
    unfold M_Model_isName_b25
    rw [hw, if_pos ((qi_le (by omega) (by omega)).mpr (by omega))]
    unfold al
    rw [Bool.and_true]
  | d + 1, b, false, h => by
    have h4 := hT.1
    refine gLp_done ?_
    show M_Model_isName_b25 (b2i false) (nI b) u = _
    unfold M_Model_isName_b25
    rw [hw, if_neg (by rw [qi_le (by omega) (by omega)]; omega), if_pos (show b2i false = 0 from rfl)]
    rfl
  | d + 1, b, true, h => by
    have h4 := hT.1
    have hs : M_Model_isName_L25 (b2i true, nI b, u) = some (.inl (b2i (isL (T b)), nI (b + 1), u)) := by
      show M_Model_isName_b25 (b2i true) (nI b) u = _
      unfold M_Model_isName_b25
      rw [hw, if_neg (by rw [qi_le (by omega) (by omega)]; omega), if_neg (show ¬ b2i true = 0 by decide), gc_t (qi_in (n := gLen 43) (by omega) (show b < 40000 by omega)), qi_ix (by omega), hT.2.2 b (by omega), isL_M, Option.bind_some]
      show some (Sum.inl (_, nI b + nI 1, u)) = _
      rw [qi_add]
    rw [gLp_next hs, p_mnameL hT hw hl d (b + 1) (isL (T b)) (by omega)]
    rfl
theorem p_misName {T : Nat → Int32} {u : gSt} {l b w : Nat} {pl e : Int32} (hT : tM u T l) (hl : w ≤ l) (h : b < w) : M_Model_isName (ms u 0 pl (nI b) (nI w) e) = if nm T b w = true then some (1, ms u 0 pl (nI b) (nI w) e) else some (0, ms u 2 (nI b) (nI b) (nI w) e) := by
  have h4 := hT.1
  have hT' : tM (ms u 0 pl (nI b) (nI w) e) T l := hT
  have key : ∀ fl : Bool, M_Model_isName_b19 (b2i fl) (ms u 0 pl (nI b) (nI w) e) = if (fl && al T (w - b) b) = true then some (1, ms u 0 pl (nI b) (nI w) e) else some (0, ms u 2 (nI b) (nI b) (nI w) e) := fun fl => by
    unfold M_Model_isName_b19
    show (gLp M_Model_isName_L25 (b2i fl, nI b, ms u 0 pl (nI b) (nI w) e)).bind _ = _
    rw [p_mnameL hT' rfl hl (w - b) b fl (by omega), Option.bind_some]
    cases fl && al T (w - b) b with
    | true => rfl
    | false =>
      show (M_Model_stop 2 (nI b) (ms u 0 pl (nI b) (nI w) e)).bind _ = _
      rw [p_stop]
      rfl
  unfold M_Model_isName nm
  show (if (12 : Int32) < nI w - nI b then _ else _) = _
  rw [qi_sub (by omega) (by omega)]
  by_cases c : w - b ≤ 12
  · rw [if_neg (show ¬ (12 : Int32) < nI (w - b) by rw [show (12 : Int32) = nI 12 from rfl, qi_lt (by omega) (by omega)]; omega), decide_eq_true c]
    exact key true
  · rw [if_pos (show (12 : Int32) < nI (w - b) from (qi_lt (a := 12) (by omega) (by omega)).mpr (by omega)), decide_eq_false c]
    exact key false
