/-! The law's case 13: clear; case 10: row. -/
/-- the model's fields after clear -/
def md_c (u : gSt) : gSt := gsF (gsF (gsF (gsF (gsF (gsF (gsF (gsF (gsF (gsF (gsF (gsF (gsF u 42 41 0) 42 1 0) 42 2 0) 42 3 (-1)) 42 7 0) 42 10 0) 42 11 0) 42 18 0) 42 19 0) 42 21 0) 42 36 0) 42 39 0) 42 17 0
/-- the model after clear -/
def md_e (u : gSt) : gSt := gsR (md_z (md_c u) 40000) 54 (fun i => if i < 200 then 0 else u.2.2.1 54 i)
theorem p_Model_clear {u : gSt} : M_Model_clear u = some (md_e u) := by
  unfold M_Model_clear
  show (gLp M_Model_clear_L67 ((0 : Int32), md_c u)).bind _ = _
  rw [p_clearL67, Option.bind_some, p_clearL109]
  rfl
/-- the class after clear -/
def dk_e (u : gSt) : gSt := gsF (gsF (gsF (gsF (gsF (bd_e (gsF u 2 1 0)) 27 13 0) 38 3 0) 0 5 0) 0 6 (-1)) 0 7 0
theorem p_c13 {L : Nat} {xs : Nat → Int32} {x : Int32} {u : gSt} : M_Law_c13 L xs x u = some (md_e (dk_e u)) := by
  unfold M_Law_c13
  rw [p_Desk_clear, Option.bind_some]
  show (M_Model_clear (dk_e u)).bind _ = _
  rw [p_Model_clear]
  rfl
