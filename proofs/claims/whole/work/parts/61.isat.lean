/-! The law's case 8: isAt. -/
/-- the model after spread -/
def sp (u : gSt) (t n : Nat) : gSt := if u.1 42 17 = 0 then sp_all (gsF u 42 17 1) t n else u
/-- what spread stands on -/
def sp_ok (u : gSt) (t n : Nat) : Prop := t ≤ 200 ∧ n ≤ 200 ∧ u.1 42 11 = nI t ∧ u.1 42 10 = nI n ∧ (∀ i, i < 40000 → u.2.2.1 52 i = 0 ∨ u.2.2.1 52 i = 1) ∧ (¬ u.1 42 17 = 0 → ∀ g y, g < n → y < t → u.2.2.1 53 (200 * g + y) = b2i (atV u t g y))
theorem p_spread {u : gSt} {t n : Nat} (h : sp_ok u t n) : M_Model_spread u = some (sp u t n) := by
  obtain ⟨ht, hn, h1, h3, h2, -⟩ := h
  unfold sp
  by_cases hk : u.1 42 17 = 0
  · rw [if_pos hk]
    exact p_spread0 ht hn h1 h3 h2 hk
  · rw [if_neg hk]
    exact p_spread1 hk
theorem sp_at {u : gSt} {t n g y : Nat} (h : sp_ok u t n) (hg : g < n) (hy : y < t) : (sp u t n).2.2.1 53 (200 * g + y) = b2i (atV u t g y) := by
  obtain ⟨ht, hn, h1, h3, h2, h4⟩ := h
  unfold sp
  by_cases hk : u.1 42 17 = 0
  · rw [if_pos hk]
    show (if (200 * g + y) / 200 < n ∧ (200 * g + y) % 200 < t then b2i (atV u t ((200 * g + y) / 200) ((200 * g + y) % 200)) else u.2.2.1 53 (200 * g + y)) = _
    rw [show (200 * g + y) / 200 = g by omega, show (200 * g + y) % 200 = y by omega, if_pos ⟨hg, hy⟩]
  · rw [if_neg hk]
    exact h4 hk g y hg hy
theorem sp_41 {u : gSt} {t n : Nat} : (sp u t n).1 42 41 = u.1 42 41 := by
  unfold sp
  by_cases hk : u.1 42 17 = 0
  · rw [if_pos hk]
    rfl
  · rw [if_neg hk]
theorem sp_66 {u : gSt} {t n : Nat} : (sp u t n).2.2.2 = u.2.2.2 := by
  unfold sp
  by_cases hk : u.1 42 17 = 0
  · rw [if_pos hk]
    rfl
  · rw [if_neg hk]
/-- a gene's number, asked on both sides -/
theorem p_gene {x : Int32} {n : Nat} {u : gSt} (hn : n ≤ 200) (h1 : u.1 9 3 = nI n) : ((x < 0 ∨ nI n ≤ x) ∧ P_Board_hasGene x u = some 0 ∧ M_Board_hasGene x u = some (0, u)) ∨ ∃ k, k < n ∧ x = nI k ∧ ¬ x < 0 ∧ ¬ nI n ≤ x ∧ P_Board_hasGene x u = some 1 ∧ M_Board_hasGene x u = some (1, u) := by
  unfold P_Board_hasGene M_Board_hasGene P_Board_genes M_Board_genes
  by_cases c1 : x < 0
  · refine Or.inl ⟨Or.inl c1, if_pos c1, ?_⟩
    rw [if_pos c1]
    rfl
  · by_cases c2 : nI n ≤ x
    · refine Or.inl ⟨Or.inr c2, ?_, ?_⟩
      · rw [if_neg c1, Option.bind_some, h1, if_pos c2]
      · rw [if_neg c1, Option.bind_some, h1, if_pos c2]
        rfl
    · obtain ⟨k, hk, hkn⟩ := qi_of c1 c2 (by omega)
      refine Or.inr ⟨k, hkn, hk, c1, c2, ?_, ?_⟩
      · rw [if_neg c1, Option.bind_some, h1, if_neg c2]
      · rw [if_neg c1, Option.bind_some, h1, if_neg c2]
        rfl
theorem p_c8 {L j t n : Nat} {xs : Nat → Int32} {u : gSt} (hL : L ≤ 3072) (h : 6 * j + 6 ≤ L) (hs : sp_ok u t n) (h1 : u.1 4 9 = nI t) (h2 : u.1 9 3 = nI n) (h3 : ∀ g y, g < n → y < t → gb u 20 y g = atV u t g y) : (∃ v : Int64, M_Law_c8 L xs (nI (6 * j)) u = some (sp (gsF (gsL u 66 0 v) 42 41 0) t n)) ∨ M_Law_c8 L xs (nI (6 * j)) u = some (gsF u 42 41 1) := by
  have hall := fun (k b : Int32) (u1 u2 : gSt) => q_c8 (L := L) (j := j) (xs := xs) (u := u) (u1 := u1) (u2 := u2) (k := k) (b := b) hL h
  generalize M_Law_c8 L xs (nI (6 * j)) u = V at hall ⊢
  generalize xs (gIx (nI (6 * j) + (1 : Int32))) = x at hall
  generalize xs (gIx (nI (6 * j) + (2 : Int32))) = y at hall
  have hs0 := hs
  obtain ⟨ht, hn, h4, h5, h6, h7⟩ := hs
  have hbad : ∀ u1 : gSt, M_Model_isAt_b21 x y u1 = some (0, gsF u1 42 41 1) := fun u1 => by
    unfold M_Model_isAt_b21 M_Model_isAt_b26
    rw [p_fails1]
    rfl
  rcases p_gene (x := x) hn h2 with ⟨a0, a1, a2⟩ | ⟨a, ha, rfl, a3, a4, a1, a2⟩
  · refine Or.inr (hall 1 0 u _ ?_ ?_ rfl (fun h9 => absurd h9 (show ¬ (1 : Int32) = 0 by decide)))
    · unfold M_Law_isAt E_Desk_isAt
      rw [a1]
      rfl
    · unfold M_Model_isAt
      by_cases c1 : x < 0
      · rw [if_pos c1]
        exact hbad u
      · rw [if_neg c1, h5, if_pos (a0.resolve_left c1)]
        exact hbad u
  · rcases p_term (x := y) ht h1 with ⟨b1, b2, b3⟩ | ⟨b, hb, rfl, b1, b2, b3⟩
    · refine Or.inr (hall 1 0 u _ ?_ ?_ rfl (fun h9 => absurd h9 (show ¬ (1 : Int32) = 0 by decide)))
      · unfold M_Law_isAt E_Desk_isAt
        rw [a1, Option.bind_some, if_neg (by decide), b1]
        rfl
      · unfold M_Model_isAt
        rw [if_neg a3, h5, if_neg a4, b3 u h4, Option.bind_some, if_pos rfl]
        exact hbad u
    · have hE : E_Desk_isAt (nI a) (nI b) u = none := by
        unfold E_Desk_isAt
        rw [a1, Option.bind_some, if_neg (by decide), b1, Option.bind_some, if_neg (by decide)]
      have hM : M_Desk_isAt (nI a) (nI b) u = some (b2i (atV u t a b), u) := by
        unfold M_Desk_isAt
        rw [a2, Option.bind_some, if_neg (show ¬ (1 : Int32) = 0 by decide), b2, Option.bind_some, if_neg (show ¬ (1 : Int32) = 0 by decide), p_has (a := 19) (r := 20) rfl rfl rfl (by omega) (by omega) (by show 4 * b + a / 64 < 800; omega), Option.bind_some, h3 a b ha hb]
        cases atV u t a b <;> rfl
      have hL2 : M_Law_isAt (nI a) (nI b) u = some (0, gsL u 66 0 (if atV u t a b then 1 else 0)) := by
        unfold M_Law_isAt
        rw [hE]
        show (M_Desk_isAt (nI a) (nI b) u).bind _ = _
        rw [hM, Option.bind_some]
        cases atV u t a b <;> rfl
      have hok : sp_ok (gsF (gsL u 66 0 (if atV u t a b then 1 else 0)) 42 41 0) t n := hs0
      have hm : M_Model_isAt (nI a) (nI b) (gsL u 66 0 (if atV u t a b then 1 else 0)) = some (b2i (atV u t a b), sp (gsF (gsL u 66 0 (if atV u t a b then 1 else 0)) 42 41 0) t n) := by
        unfold M_Model_isAt M_Model_isAt_b26
        rw [if_neg a3, show (gsL u 66 0 (if atV u t a b then 1 else 0)).1 42 10 = nI n from h5, if_neg a4, b3 _ (show (gsL u 66 0 (if atV u t a b then 1 else 0)).1 42 11 = nI t from h4), Option.bind_some, if_neg (show ¬ (1 : Int32) = 0 by decide), p_fails0, Option.bind_some, if_pos rfl, p_spread hok, Option.bind_some, p_200, gc_t (qi_in (n := gLen 53) (by omega) (show 200 * a + b < 40000 by omega)), qi_ix (by omega), sp_at hok ha hb]
        exact gc_t b2i_z
      refine Or.inl ⟨_, hall 0 _ _ _ hL2 hm sp_41 (fun _ => ?_)⟩
      rw [sp_66]
      show (if atV u t a b then (1 : Int64) else 0) = if b2i (atV u t a b) = 0 then 0 else 1
      cases atV u t a b <;> rfl
