/-! clear, on both sides. -/
/-- the long array a as f -/
def gsQ (u : gSt) (a : Nat) (f : Nat → Int64) : gSt := (u.1, u.2.1, u.2.2.1, fun b => if b = a then f else u.2.2.2 b)
theorem gsL_Q {u : gSt} {a j : Nat} {v : Int64} : gsL u a j v = gsQ u a (vp_updL (u.2.2.2 a) j v) := by
  unfold gsL gsQ
  congr 3
  funext b
  by_cases h : b = a
  · subst h
    rfl
  · rw [if_neg h, if_neg h]
theorem gsQ_Q {u : gSt} {a : Nat} {f g : Nat → Int64} : gsQ (gsQ u a f) a g = gsQ u a g := by
  unfold gsQ
  congr 3
  funext b
  by_cases h : b = a
  · rw [if_pos h, if_pos h]
  · rw [if_neg h, if_neg h]
    show (if b = a then f else u.2.2.2 b) = _
    rw [if_neg h]
theorem gsQ_0 {u : gSt} {a : Nat} {f : Nat → Int64} (h : u.2.2.2 a = f) : gsQ u a f = u := by
  unfold gsQ
  obtain ⟨u1, u2, u3, u4⟩ := u
  congr 3
  funext b
  by_cases hb : b = a
  · subst hb
    rw [if_pos rfl]
    exact h.symm
  · rw [if_neg hb]
def tr_fillJ (a : Nat) (y : Int64) (u : gSt) (k : Nat) : Nat × Int64 × Int32 × Int32 × gSt := (a, y, nI k, nI (gLen a), gsQ u a (fun i => if i < k then y else u.2.2.2 a i))
theorem p_fillJ {a : Nat} {y : Int64} {u : gSt} (ha : gK a = 24) (hl : gLen a < 2147483648) : M_Arrays_fillJ a y u = some (gsQ u a (fun i => if i < gLen a then y else u.2.2.2 a i)) := by
  unfold M_Arrays_fillJ
  have hk : (gK a == 24) = true := by rw [ha]; rfl
  rw [gc_t hk]
  have e0 : (a, y, (0 : Int32), Int32.ofNat (gLen a), u) = tr_fillJ a y u 0 := by
    unfold tr_fillJ
    rw [gsQ_0]
    · rfl
    · funext i
      rw [if_neg (by omega)]
  have key : gLp M_Arrays_fillJ_L6 (tr_fillJ a y u 0) = some (tr_fillJ a y u (gLen a)).2.2.2.2 := by
    refine lp_to (S := tr_fillJ a y u) (N := gLen a) (Nat.zero_le _) (fun k _ hkl => ?_) ?_
    · show M_Arrays_fillJ_b6 a y (nI k) (nI (gLen a)) (gsQ u a (fun i => if i < k then y else u.2.2.2 a i)) = _
      unfold M_Arrays_fillJ_b6
      rw [if_neg (by rw [qi_le hl (by omega)]; omega), gc_t hk, gc_t (qi_in (by omega) hkl), qi_ix (by omega), gsL_Q, gsQ_Q]
      show some (Sum.inl (a, y, nI k + nI 1, nI (gLen a), _)) = some (Sum.inl (a, y, nI (k + 1), nI (gLen a), _))
      rw [qi_add]
      refine congrArg (fun f => some (Sum.inl (a, y, nI (k + 1), nI (gLen a), gsQ u a f))) ?_
      funext i
      show (if i = k then y else (gsQ u a (fun i => if i < k then y else u.2.2.2 a i)).2.2.2 a i) = _
      rw [show (gsQ u a (fun i => if i < k then y else u.2.2.2 a i)).2.2.2 a = (fun i => if i < k then y else u.2.2.2 a i) from if_pos rfl]
      by_cases h1 : i = k
      · rw [if_pos h1, if_pos (by omega)]
      · rw [if_neg h1]
        show (if i < k then y else u.2.2.2 a i) = _
        by_cases h2 : i < k
        · rw [if_pos h2, if_pos (by omega)]
        · rw [if_neg h2, if_neg (by omega)]
    · show M_Arrays_fillJ_b6 a y (nI (gLen a)) (nI (gLen a)) _ = _
      unfold M_Arrays_fillJ_b6
      rw [if_pos ((qi_le hl hl).mpr (Nat.le_refl _))]
  rw [e0, key]
  rfl
theorem p_Grid_empty {a r : Nat} {u : gSt} (h1 : gK a = 5) (h2 : gFR a 0 = some r) (h3 : gK r = 24) (h4 : gLen r < 2147483648) : M_Grid_empty a u = some (gsQ u r (fun i => if i < gLen r then 0 else u.2.2.2 r i)) := by
  unfold M_Grid_empty
  have hk : (gK a == 5) = true := by rw [h1]; rfl
  rw [gc_t hk, h2, Option.bind_some, p_fillJ h3 h4]
  rfl
/-- the class's board after empty -/
def bd_e (u : gSt) : gSt := gsF (gsF (gsF (gsQ (gsQ (gsQ (gsQ (gsQ (gsQ (gsF (gsF u 5 3 0) 9 3 0) 14 (fun i => if i < 800 then 0 else u.2.2.2 14 i)) 16 (fun i => if i < 800 then 0 else u.2.2.2 16 i)) 18 (fun i => if i < 800 then 0 else u.2.2.2 18 i)) 20 (fun i => if i < 800 then 0 else u.2.2.2 20 i)) 22 (fun i => if i < 4 then 0 else u.2.2.2 22 i)) 24 (fun i => if i < 4 then 0 else u.2.2.2 24 i)) 4 9 0) 4 10 0) 4 11 0
theorem p_Board_empty {u : gSt} : M_Board_empty u = some (bd_e u) := by
  unfold M_Board_empty
  rw [Option.bind_some, Option.bind_some, p_Grid_empty (a := 13) (r := 14) rfl rfl rfl (by decide), Option.bind_some, p_Grid_empty (a := 15) (r := 16) rfl rfl rfl (by decide), Option.bind_some, p_Grid_empty (a := 17) (r := 18) rfl rfl rfl (by decide), Option.bind_some, p_Grid_empty (a := 19) (r := 20) rfl rfl rfl (by decide), Option.bind_some, p_Grid_empty (a := 21) (r := 22) rfl rfl rfl (by decide), Option.bind_some, p_Grid_empty (a := 23) (r := 24) rfl rfl rfl (by decide), Option.bind_some]
  rfl
theorem p_Desk_clear {u : gSt} : M_Desk_clear u = some (gsF (gsF (gsF (gsF (gsF (bd_e (gsF u 2 1 0)) 27 13 0) 38 3 0) 0 5 0) 0 6 (-1)) 0 7 0) := by
  unfold M_Desk_clear
  rw [Option.bind_some, p_Board_empty]
  rfl
/-- the first k of the model's four tables are false -/
def md_z (u : gSt) (k : Nat) : gSt := (u.1, u.2.1, fun b => if b = 50 then (fun i => if i < k then 0 else u.2.2.1 50 i) else if b = 51 then (fun i => if i < k then 0 else u.2.2.1 51 i) else if b = 52 then (fun i => if i < k then 0 else u.2.2.1 52 i) else if b = 53 then (fun i => if i < k then 0 else u.2.2.1 53 i) else u.2.2.1 b, u.2.2.2)
theorem z_upd {f : Nat → Int32} {k : Nat} : upd (fun i => if i < k then 0 else f i) k 0 = fun i => if i < k + 1 then 0 else f i := by
  funext i
  show (if i = k then 0 else (if i < k then 0 else f i)) = _
  by_cases h1 : i = k
  · rw [if_pos h1, if_pos (by omega)]
  · rw [if_neg h1]
    by_cases h2 : i < k
    · rw [if_pos h2, if_pos (by omega)]
    · rw [if_neg h2, if_neg (by omega)]
theorem md_step {u : gSt} {k : Nat} : gsA (gsA (gsA (gsA (md_z u k) 50 k 0) 51 k 0) 52 k 0) 53 k 0 = md_z u (k + 1) := by
  show (u.1, u.2.1, _, u.2.2.2) = (u.1, u.2.1, _, u.2.2.2)
  refine congrArg (fun f => (u.1, u.2.1, f, u.2.2.2)) ?_
  funext b
  by_cases h0 : b = 50
  · subst h0
    exact z_upd
  · by_cases h1 : b = 51
    · subst h1
      exact z_upd
    · by_cases h2 : b = 52
      · subst h2
        exact z_upd
      · by_cases h3 : b = 53
        · subst h3
          exact z_upd
        · show (if b = 53 then _ else if b = 52 then _ else if b = 51 then _ else if b = 50 then _ else if b = 50 then _ else if b = 51 then _ else if b = 52 then _ else if b = 53 then _ else u.2.2.1 b) = (if b = 50 then _ else if b = 51 then _ else if b = 52 then _ else if b = 53 then _ else u.2.2.1 b)
          rw [if_neg h3, if_neg h2, if_neg h1, if_neg h0, if_neg h0, if_neg h1, if_neg h2, if_neg h3, if_neg h0, if_neg h1, if_neg h2, if_neg h3]
theorem md_0 {u : gSt} : md_z u 0 = u := by
  obtain ⟨u1, u2, u3, u4⟩ := u
  refine congrArg (fun f => (u1, u2, f, u4)) ?_
  funext b
  by_cases h0 : b = 50
  · subst h0
    rfl
  · by_cases h1 : b = 51
    · subst h1
      rfl
    · by_cases h2 : b = 52
      · subst h2
        rfl
      · by_cases h3 : b = 53
        · subst h3
          rfl
        · rw [if_neg h0, if_neg h1, if_neg h2, if_neg h3]
theorem p_clearL67 {u : gSt} : gLp M_Model_clear_L67 ((0 : Int32), u) = some (md_z u 40000) := by
  have e0 : ((0 : Int32), u) = (fun k => (nI k, md_z u k)) 0 := by
    show _ = (nI 0, md_z u 0)
    rw [md_0]
    rfl
  rw [e0]
  refine lp_to (S := fun k => (nI k, md_z u k)) (N := 40000) (Nat.zero_le _) (fun k _ hk => ?_) ?_
  · show M_Model_clear_b67 (nI k) (md_z u k) = some (Sum.inl (nI (k + 1), md_z u (k + 1)))
    unfold M_Model_clear_b67
    rw [if_neg (by rw [show (40000 : Int32) = nI 40000 from rfl, qi_le (by omega) (by omega)]; omega), gc_t (qi_in (n := gLen 50) (by omega) (show k < 40000 from hk)), Option.bind_some, gc_t (qi_in (n := gLen 51) (by omega) (show k < 40000 from hk)), Option.bind_some, gc_t (qi_in (n := gLen 52) (by omega) (show k < 40000 from hk)), Option.bind_some, gc_t (qi_in (n := gLen 53) (by omega) (show k < 40000 from hk)), Option.bind_some, qi_ix (by omega), md_step]
    show some (Sum.inl (nI k + nI 1, _)) = _
    rw [qi_add]
  · show M_Model_clear_b67 (nI 40000) (md_z u 40000) = _
    unfold M_Model_clear_b67
    rw [if_pos (by rw [show (40000 : Int32) = nI 40000 from rfl, qi_le (by omega) (by omega)]; omega)]
theorem p_clearL109 {u : gSt} : gLp M_Model_clear_L109 ((0 : Int32), u) = some (gsR u 54 (fun i => if i < 200 then 0 else u.2.2.1 54 i)) := by
  have e0 : ((0 : Int32), u) = (fun k => (nI k, gsR u 54 (fun i => if i < k then 0 else u.2.2.1 54 i))) 0 := by
    show _ = (nI 0, gsR u 54 (fun i => if i < 0 then 0 else u.2.2.1 54 i))
    rw [gsR_0]
    · rfl
    · funext i
      rw [if_neg (by omega)]
  rw [e0]
  refine lp_to (S := fun k => (nI k, gsR u 54 (fun i => if i < k then 0 else u.2.2.1 54 i))) (N := 200) (Nat.zero_le _) (fun k _ hk => ?_) ?_
  · show M_Model_clear_b109 (nI k) (gsR u 54 (fun i => if i < k then 0 else u.2.2.1 54 i)) = some (Sum.inl (nI (k + 1), _))
    unfold M_Model_clear_b109
    rw [if_neg (by rw [show (200 : Int32) = nI 200 from rfl, qi_le (by omega) (by omega)]; omega), gc_t (qi_in (n := gLen 54) (by omega) (show k < 200 from hk)), Option.bind_some, qi_ix (by omega), gsA_R, gsR_R]
    show some (Sum.inl (nI k + nI 1, gsR u 54 (upd (fun i => if i < k then 0 else u.2.2.1 54 i) k 0))) = _
    rw [qi_add, z_upd]
  · show M_Model_clear_b109 (nI 200) _ = _
    unfold M_Model_clear_b109
    rw [if_pos (by rw [show (200 : Int32) = nI 200 from rfl, qi_le (by omega) (by omega)]; omega)]
