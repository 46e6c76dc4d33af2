/-! Lines and words, on both sides. -/
/-- the first place from b on, of d, that has c; or b + d -/
def wd (T : Nat → Int32) (c : Int32) : Nat → Nat → Nat
  | 0, b => b
  | d + 1, b => if T b = c then b else wd T c d (b + 1)
theorem wd_ge {T : Nat → Int32} {c : Int32} : ∀ (d b : Nat), b ≤ wd T c d b ∧ wd T c d b ≤ b + d
  | 0, b => ⟨Nat.le_refl _, Nat.le_refl _⟩
  | d + 1, b => by
    unfold wd
    by_cases h : T b = c
    · rw [if_pos h]
      omega
    · rw [if_neg h]
      have := wd_ge (T := T) (c := c) d (b + 1)
      omega
/-- the class in the midst of a line -/
def ds (u : gSt) (F B : Int64) (p q f e b w : Int32) : gSt := (fun a j => if a = 2 then (if j = 2 then f else if j = 3 then e else if j = 4 then b else if j = 5 then w else u.1 a j) else if a = 1 then (if j = 6 then p else if j = 7 then q else u.1 a j) else u.1 a j, fun a j => if a = 1 then (if j = 4 then F else if j = 5 then B else u.2.1 a j) else u.2.1 a j, u.2.2)
theorem ds_0 {u : gSt} : u = ds u (u.2.1 1 4) (u.2.1 1 5) (u.1 1 6) (u.1 1 7) (u.1 2 2) (u.1 2 3) (u.1 2 4) (u.1 2 5) := by
  obtain ⟨u1, u2, u3⟩ := u
  unfold ds
  refine Prod.ext (funext fun a => funext fun j => ?_) (Prod.ext (funext fun a => funext fun j => ?_) rfl)
  · by_cases h1 : a = 2
    · subst h1
      by_cases h2 : j = 2
      · subst h2; rfl
      · by_cases h3 : j = 3
        · subst h3; rfl
        · by_cases h4 : j = 4
          · subst h4; rfl
          · by_cases h5 : j = 5
            · subst h5; rfl
            · simp [h2, h3, h4, h5]
    · by_cases h2 : a = 1
      · subst h2
        by_cases h3 : j = 6
        · subst h3; rfl
        · by_cases h4 : j = 7
          · subst h4; rfl
          · simp [h3, h4]
      · simp [h1, h2]
  · by_cases h1 : a = 1
    · subst h1
      by_cases h2 : j = 4
      · subst h2; rfl
      · by_cases h3 : j = 5
        · subst h3; rfl
        · simp [h2, h3]
    · simp [h1]
theorem ds_f {u : gSt} {F B : Int64} {p q f e b w x : Int32} : gsF (ds u F B p q f e b w) 2 2 x = ds u F B p q x e b w := by
  unfold gsF ds
  refine Prod.ext (funext fun a => funext fun j => ?_) rfl
  by_cases h1 : a = 2 <;> by_cases h2 : j = 2 <;> simp [h1, h2]
theorem ds_e {u : gSt} {F B : Int64} {p q f e b w x : Int32} : gsF (ds u F B p q f e b w) 2 3 x = ds u F B p q f x b w := by
  unfold gsF ds
  refine Prod.ext (funext fun a => funext fun j => ?_) rfl
  by_cases h1 : a = 2 <;> by_cases h2 : j = 3 <;> simp [h1, h2]
theorem ds_b {u : gSt} {F B : Int64} {p q f e b w x : Int32} : gsF (ds u F B p q f e b w) 2 4 x = ds u F B p q f e x w := by
  unfold gsF ds
  refine Prod.ext (funext fun a => funext fun j => ?_) rfl
  by_cases h1 : a = 2 <;> by_cases h2 : j = 4 <;> simp [h1, h2]
theorem ds_w {u : gSt} {F B : Int64} {p q f e b w x : Int32} : gsF (ds u F B p q f e b w) 2 5 x = ds u F B p q f e b x := by
  unfold gsF ds
  refine Prod.ext (funext fun a => funext fun j => ?_) rfl
  by_cases h1 : a = 2 <;> by_cases h2 : j = 5 <;> simp [h1, h2]
theorem ds_p {u : gSt} {F B : Int64} {p q f e b w x : Int32} : gsF (ds u F B p q f e b w) 1 6 x = ds u F B x q f e b w := by
  unfold gsF ds
  refine Prod.ext (funext fun a => funext fun j => ?_) rfl
  by_cases h1 : a = 1 <;> by_cases h2 : j = 6 <;> simp [h1, h2]
theorem ds_q {u : gSt} {F B : Int64} {p q f e b w x : Int32} : gsF (ds u F B p q f e b w) 1 7 x = ds u F B p x f e b w := by
  unfold gsF ds
  refine Prod.ext (funext fun a => funext fun j => ?_) rfl
  by_cases h1 : a = 1 <;> by_cases h2 : j = 7 <;> simp [h1, h2]
theorem ds_F {u : gSt} {F B : Int64} {p q f e b w : Int32} {x : Int64} : gsG (ds u F B p q f e b w) 1 4 x = ds u x B p q f e b w := by
  unfold gsG ds
  refine Prod.ext rfl (Prod.ext (funext fun a => funext fun j => ?_) rfl)
  by_cases h1 : a = 1 <;> by_cases h2 : j = 4 <;> simp [h1, h2]
theorem ds_B {u : gSt} {F B : Int64} {p q f e b w : Int32} {x : Int64} : gsG (ds u F B p q f e b w) 1 5 x = ds u F x p q f e b w := by
  unfold gsG ds
  refine Prod.ext rfl (Prod.ext (funext fun a => funext fun j => ?_) rfl)
  by_cases h1 : a = 1 <;> by_cases h2 : j = 5 <;> simp [h1, h2]
/-- the class's text -/
def tD (u : gSt) (T : Nat → Int32) (l : Nat) : Prop := l ≤ 40000 ∧ u.1 2 1 = nI l ∧ ∀ i, i < l → u.2.2.1 3 i = T i
theorem p_wordL {T : Nat → Int32} {u : gSt} {l e : Nat} {F B : Int64} {p q f x : Int32} (hT : tD u T l) (he : e ≤ l) : ∀ (d b : Nat), b + d = e → gLp M_Text_openWord_L39 (ds u F B p q f (nI e) x (nI b)) = some (ds u F B p q f (nI e) x (nI (wd T 32 d b)))
  | 0, b, h => by
    have hl := hT.1
    refine gLp_done ?_
    show M_Text_openWord_b39 (ds u F B p q f (nI e) x (nI b)) = _
    unfold M_Text_openWord_b39
    exact if_pos (show nI e ≤ nI b from (qi_le (by omega) (by omega)).mpr (by omega))
  | d + 1, b, h => by
    have hl := hT.1
    have hs : M_Text_openWord_L39 (ds u F B p q f (nI e) x (nI b)) = if T b = 32 then some (.inr (ds u F B p q f (nI e) x (nI b))) else some (.inl (ds u F B p q f (nI e) x (nI (b + 1)))) := by
      show M_Text_openWord_b39 (ds u F B p q f (nI e) x (nI b)) = _
      unfold M_Text_openWord_b39
      show (if nI e ≤ nI b then _ else _) = _
      rw [if_neg (show ¬ nI e ≤ nI b by rw [qi_le (by omega) (by omega)]; omega)]
      show gc (gIn (nI b) (gLen 3)) (if u.2.2.1 3 (gIx (nI b)) = 32 then _ else some (Sum.inl (gsF (ds u F B p q f (nI e) x (nI b)) 2 5 (nI b + nI 1)))) = _
      rw [gc_t (qi_in (n := gLen 3) (by omega) (show b < 40000 by omega)), qi_ix (by omega), hT.2.2 b (by omega), qi_add, ds_w]
    unfold wd
    by_cases c : T b = 32
    · rw [if_pos c] at hs ⊢
      exact gLp_done hs
    · rw [if_neg c] at hs ⊢
      rw [gLp_next hs]
      exact p_wordL hT he d (b + 1) (by omega)
/-- a word more: behind the one that ends at c -/
theorem p_openWord {T : Nat → Int32} {u : gSt} {l e c : Nat} {F B : Int64} {p q f x : Int32} (hT : tD u T l) (he : e ≤ l) (hc : c < e) : M_Text_openWord (ds u F B p q f (nI e) x (nI c)) = some (1, ds u F B p q f (nI e) (nI (c + 1)) (nI (wd T 32 (e - (c + 1)) (c + 1)))) := by
  have hl := hT.1
  unfold M_Text_openWord
  show (if nI c < nI e then _ else _) = _
  rw [if_pos (show nI c < nI e from (qi_lt (by omega) (by omega)).mpr hc)]
  show (gLp M_Text_openWord_L39 (gsF (gsF (ds u F B p q f (nI e) x (nI c)) 2 4 (nI c + nI 1)) 2 5 ((gsF (ds u F B p q f (nI e) x (nI c)) 2 4 (nI c + nI 1)).1 2 4))).bind _ = _
  rw [qi_add, ds_b]
  show (gLp M_Text_openWord_L39 (gsF (ds u F B p q f (nI e) (nI (c + 1)) (nI c)) 2 5 (nI (c + 1)))).bind _ = _
  rw [ds_w, p_wordL hT he (e - (c + 1)) (c + 1) (by omega)]
  rfl
theorem p_openWord0 {T : Nat → Int32} {u : gSt} {l e c : Nat} {F B : Int64} {p q f x : Int32} (hT : tD u T l) (he : e ≤ l) (hc : e ≤ c) (hc2 : c ≤ 40000) : M_Text_openWord (ds u F B p q f (nI e) x (nI c)) = some (0, ds u F B p q f (nI e) (nI e) (nI c)) := by
  have hl := hT.1
  unfold M_Text_openWord
  show (if nI c < nI e then _ else _) = _
  rw [if_neg (show ¬ nI c < nI e by rw [qi_lt (by omega) (by omega)]; omega)]
  show some ((0 : Int32), gsF (ds u F B p q f (nI e) x (nI c)) 2 4 (nI e)) = _
  rw [ds_b]
/-- the first word of a line -/
theorem p_openWord1 {T : Nat → Int32} {u : gSt} {l e c : Nat} {F B : Int64} {p q f x : Int32} (hT : tD u T l) (he : e ≤ l) (hc : c < e) : M_Text_openWord (ds u F B p q f (nI e) x (nI c - (1 : Int32))) = some (1, ds u F B p q f (nI e) (nI c) (nI (wd T 32 (e - c) c))) := by
  have hl := hT.1
  have e1 : nI c - (1 : Int32) < nI e := by
    rw [Int32.lt_iff_toInt_lt, show (1 : Int32) = nI 1 from rfl, pk_sub_toInt (by omega) (by omega), nI_toInt (by omega)]
    omega
  have e2 : nI c - (1 : Int32) + nI 1 = nI c := Int32.sub_add_cancel _ _
  unfold M_Text_openWord
  show (if nI c - (1 : Int32) < nI e then _ else _) = _
  rw [if_pos e1]
  show (gLp M_Text_openWord_L39 (gsF (gsF (ds u F B p q f (nI e) x (nI c - (1 : Int32))) 2 4 (nI c - (1 : Int32) + nI 1)) 2 5 ((gsF (ds u F B p q f (nI e) x (nI c - (1 : Int32))) 2 4 (nI c - (1 : Int32) + nI 1)).1 2 4))).bind _ = _
  rw [e2, ds_b]
  show (gLp M_Text_openWord_L39 (gsF (ds u F B p q f (nI e) (nI c) (nI c - (1 : Int32))) 2 5 (nI c))).bind _ = _
  rw [ds_w, p_wordL hT he (e - c) c (by omega)]
  rfl
theorem p_lineL {T : Nat → Int32} {u : gSt} {l : Nat} {F B : Int64} {p q f x w y : Int32} (hT : tD u T l) : ∀ (d b : Nat), b + d = l → gLp M_Text_openLine_L10 (y, ds u F B p q f (nI b) x w) = some (y, ds u F B p q f (nI (wd T 10 d b)) x w)
  | 0, b, h => by
    have hl := hT.1
    refine gLp_done ?_
    show M_Text_openLine_b10 y (ds u F B p q f (nI b) x w) = _
    unfold M_Text_openLine_b10
    exact if_pos (show u.1 2 1 ≤ nI b by rw [hT.2.1]; exact (qi_le (by omega) (by omega)).mpr (by omega))
  | d + 1, b, h => by
    have hl := hT.1
    have hs : M_Text_openLine_L10 (y, ds u F B p q f (nI b) x w) = if T b = 10 then some (.inr (y, ds u F B p q f (nI b) x w)) else some (.inl (y, ds u F B p q f (nI (b + 1)) x w)) := by
      show M_Text_openLine_b10 y (ds u F B p q f (nI b) x w) = _
      unfold M_Text_openLine_b10
      show (if u.1 2 1 ≤ nI b then _ else _) = _
      rw [if_neg (show ¬ u.1 2 1 ≤ nI b by rw [hT.2.1, qi_le (by omega) (by omega)]; omega)]
      show gc (gIn (nI b) (gLen 3)) (if u.2.2.1 3 (gIx (nI b)) = 10 then _ else some (Sum.inl (y, gsF (ds u F B p q f (nI b) x w) 2 3 (nI b + nI 1)))) = _
      rw [gc_t (qi_in (n := gLen 3) (by omega) (show b < 40000 by omega)), qi_ix (by omega), hT.2.2 b (by omega), qi_add, ds_e]
    unfold wd
    by_cases c : T b = 10
    · rw [if_pos c] at hs ⊢
      exact gLp_done hs
    · rw [if_neg c] at hs ⊢
      rw [gLp_next hs]
      exact p_lineL hT d (b + 1) (by omega)
theorem p_openLine {T : Nat → Int32} {u : gSt} {l c : Nat} {F B : Int64} {p q f e b w : Int32} (hT : tD u T l) (hc : c < l) : M_Text_openLine (nI c) (ds u F B p q f e b w) = some (ds u F B p q (nI c) (nI (wd T 10 (l - c) c)) (nI c) (nI c - (1 : Int32))) := by
  unfold M_Text_openLine
  show (gLp M_Text_openLine_L10 (nI c, gsF (gsF (ds u F B p q f e b w) 2 2 (nI c)) 2 3 (nI c))).bind _ = _
  rw [ds_f, ds_e, p_lineL hT (l - c) c (by omega)]
  show some (gsF (gsF (ds u F B p q (nI c) (nI (wd T 10 (l - c) c)) b w) 2 4 (nI c)) 2 5 (nI c - (1 : Int32))) = _
  rw [ds_b, ds_w]
