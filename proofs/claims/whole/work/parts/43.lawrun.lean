/-! printed by wip/whole/gen/gen.py -/
section
variable {p : Program} {l : Launch} {e : Env} {R : Room} {s : State} {m : MethodId} {args : Array Value} {below : List Frame} {meth : Method} {c : Code} {Q : State → Prop} {cells slots : Nat} {cy : Nat → ClassId} {D : va_G} {ρ : Nat → Nat} {A : Nat → Prop} {K : gKd}
noncomputable def M_Law_c2 (L : Nat) (xs : Nat → Int32) (x4 : Int32) (u : gSt) : Option gSt :=
  (M_Desk_run u).bind fun q273 =>
  (M_Model_run q273.2).bind fun q277 =>
  if q273.1 = q277.1 then
    (some q277.2)
  else
    (none)
set_option maxHeartbeats 4000000 in
set_option maxRecDepth 100000 in
theorem t_Law_c2 (C : gX "TermDeskLaw" code 7 ret 12 428 R cells slots cy D ρ A p s m args meth c) (X2 : gX2 A s) (X3 : gX3 A K s s.heap) (hfl : l.stackTraces = false) (hc1 : cells + 1 ≤ R.cells) (hc2 : slots + 6 ≤ R.slots) {b L : Nat} {xs : Nat → Int32} (hX : va_X b L xs s s.heap) (hbl : b < s.heap.size) (hbA : ¬ A b) {x4 : Int32} {u z : gSt} (hM : M_Law_c2 L xs x4 u = some z) (hN : ∀ (ls : Array Slot) (H : Heap) (locs : List Loc), lv_has ls 7 [(0, .ref b), (1, .ref (ρ 0)), (2, .ref (ρ 42)), (3, .ref (ρ 66)), (4, .int (x4 + (6 : Int32)))] → va_P D gCl (gW cy ρ z) H → va_S A s.heap H locs → W p l e R s m args below meth c H locs (cells + 1) (slots + 6) Q (F0 m 23 ls [])) (ls : Array Slot) (H : Heap) (locs : List Loc) (hl : lv_has ls 7 [(0, .ref b), (1, .ref (ρ 0)), (2, .ref (ρ 42)), (3, .ref (ρ 66)), (4, .int x4)]) (hP : va_P D gCl (gW cy ρ u) H) (hS : va_S A s.heap H locs) : W p l e R s m args below meth c H locs cells slots Q (F0 m 272 ls []) := by
  have hx := C.1
  have hb := C.2.1
  unfold M_Law_c2 at hM
  refine lv_aload_n hx hb d_law_272 rfl (lv_at hl 1 rfl) ?_
  obtain ⟨q273, hq273, hM⟩ := gb_some hM
  refine g_backI (g_runV3 (As := []) C X3 hP hS (c_Desk_run C.2.2.2.2.2.2.2.2.1 hq273) gi_Desk_run gm_Law_72 rfl rfl (by decide) (by decide) hl.1 rfl (Nat.le_of_ble_eq_true rfl) d_law_273) hS (fun H locs hP hS => ?_)
  refine lv_aload_n hx hb d_law_276 rfl (lv_at hl 2 rfl) ?_
  obtain ⟨q277, hq277, hM⟩ := gb_some hM
  refine g_backI (g_runV (As := []) C hP (c_Model_run C.2.2.2.2.2.2.2.2.1 hq277) gi_Model_run gm_Law_75 rfl rfl (by decide) (by decide) hl.1 rfl (Nat.le_of_ble_eq_true rfl) d_law_277) hS (fun H locs hP hS => ?_)
  refine lv_icmp_eq (tgt := 975) hx hb d_law_280 (by decide) (fun hc280 => ?_) (fun hc280 => ?_)
  · replace hM := gi_t hc280 hM
    refine lv_iinc (k := 4) (v := x4 + (6 : Int32)) (lv' := [(4, .int (x4 + (6 : Int32))), (0, .ref b), (1, .ref (ρ 0)), (2, .ref (ρ 42)), (3, .ref (ρ 66))]) hx hb d_law_975 hl rfl (congrArg (fun z => x4 + z) (by decide)) (by decide) rfl (fun ls hl => ?_)
    refine lv_goto (tgt := 23) hx hb d_law_978 (by decide) ?_
    obtain rfl := Option.some.inj hM
    refine W.widen (k := cells + 1) (n := slots + 6) (by omega) (by omega) ?_
    exact hN ls H locs (lv_sub hl [1, 2, 3, 4, 0] rfl) hP hS
  · replace hM := gi_f hc280 hM
    refine lv_iconst (v := (0 : Int32)) hx hb d_law_283 (by decide) ?_
    cases hM
end
