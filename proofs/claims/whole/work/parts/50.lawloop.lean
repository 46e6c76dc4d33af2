/-! THE CLAIM OUT OF ONE WALK OF THE LAW'S BODY. Your part is whole_start (and what it stands on); all else here is the same for every law, but numbers. -/
def R_law : String := "TermDeskLaw"
def lw_P (b : Addr) (xs : List Int32) (args : Array Value) (s : State) : Prop := args = #[.ref b] ∧ s.IntsAt b xs ∧ xs.length ≤ 3072 ∧ (Jvm.Cond.and given_1 narrow_1).before args s = true
def lw_Q (_ : Array Value) (s : State) (o : Outcome) (t : State) : Prop := o = .returned (some (.int 1)) ∧ Framed s o t [] 601024 7293034
def lw_Z (below : List Frame) (a : Array Value) (s : State) : State → Prop := fun t => ∃ o, t.status = .running ∧ Ended t below o ∧ lw_Q a s o t
/-- the law's own end, with 1 on the stack, nothing written that was there before, its room as the claim has it -/
theorem lw_ret {p : Program} {l : Launch} {e : Env} {s : State} {m : MethodId} {below : List Frame} {meth : Method} {c : Code} {b : Nat} (hx : p.tables.exec = Jvm.exec) (hb : c.code = code) (hr : meth.sig.returnType = ret) (hlocks : meth.locks = false) {pc : Nat} {H : Heap} {ls : Array Slot} (hdg : decode code pc = .ok (.ireturn, 1)) : W p l e room_1 s m #[Value.ref b] below meth c H [] 601024 7293034 (lw_Z below #[Value.ref b] s) (F0 m pc ls [.int 1]) := by
  intro T hT X
  obtain ⟨fs, hret, hrun, hended, hW, hframe⟩ := X.leave (v := some (.int 1)) (hlocks := hlocks) (fun h => by rw [hr] at h; cases h)
  have hmeth' : T.vm.method? m = some meth := X.method'
  refine ⟨T.setFrames fs, ?_, .returned (some (.int 1)), hrun, hended, rfl, ⟨_, rfl⟩, hW, hframe⟩
  jvm_step X.here [X.here.top, hx, hb, hdg, hmeth', hr, ret, narrow_b1]
  (try refine ⟨rfl, ?_⟩); (try refine ⟨rfl, ?_⟩)
  first | (intro acts; rw [hret _ acts rfl rfl rfl]) | rw [hret _ _ rfl rfl rfl]
  exact Steps.refl _
/-- what holds at the law's entry: the machine, the code, the tables' words (any of lw_tbl by 'hts w (by decide +kernel)'), the script of L ints xs at the cell b, what the Statement gives of the start (any of its parts by flat_of_before) -/
def lw_At (p : Program) (s : State) (m : MethodId) (meth : Method) (c : Code) (b L : Nat) (xs : Nat → Int32) : Prop :=
  p.tables.exec = Jvm.exec ∧ c.code = code ∧ meth.sig.returnType = ret ∧ c.maxLocals = 7 ∧ s.vm.findClass R_law = some m.cls ∧ (∀ w ∈ lw_tbl, w.before #[Value.ref b] s = true) ∧ va_X b L xs s s.heap ∧ b < s.heap.size ∧ meth.locks = false ∧ (Jvm.Cond.and given_1 narrow_1).before #[Value.ref b] s = true

/-- one round of the law's loop, on both sides -/
noncomputable def M_Law_it (L : Nat) (xs : Nat → Int32) (x4 : Int32) (u : gSt) : Option gSt :=
  gc (gIn x4 L) <| if xs (gIx x4) &&& (15 : Int32) = 0 then M_Law_c0 L xs x4 u
  else if xs (gIx x4) &&& (15 : Int32) = 1 then M_Law_c1 L xs x4 u
  else if xs (gIx x4) &&& (15 : Int32) = 2 then M_Law_c2 L xs x4 u
  else if xs (gIx x4) &&& (15 : Int32) = 3 then M_Law_c3 L xs x4 u
  else if xs (gIx x4) &&& (15 : Int32) = 4 then M_Law_c4 L xs x4 u
  else if xs (gIx x4) &&& (15 : Int32) = 5 then M_Law_c5 L xs x4 u
  else if xs (gIx x4) &&& (15 : Int32) = 6 then M_Law_c6 L xs x4 u
  else if xs (gIx x4) &&& (15 : Int32) = 7 then M_Law_c7 L xs x4 u
  else if xs (gIx x4) &&& (15 : Int32) = 8 then M_Law_c8 L xs x4 u
  else if xs (gIx x4) &&& (15 : Int32) = 9 then M_Law_c9 L xs x4 u
  else if xs (gIx x4) &&& (15 : Int32) = 10 then M_Law_c10 L xs x4 u
  else if xs (gIx x4) &&& (15 : Int32) = 11 then M_Law_c11 L xs x4 u
  else if xs (gIx x4) &&& (15 : Int32) = 12 then M_Law_c12 L xs x4 u
  else if xs (gIx x4) &&& (15 : Int32) = 13 then M_Law_c13 L xs x4 u
  else some u
section
variable {p : Program} {l : Launch} {e : Env} {R : Room} {s : State} {m : MethodId} {args : Array Value} {below : List Frame} {meth : Method} {c : Code} {Q : State → Prop} {cells slots : Nat} {cy : Nat → ClassId} {D : va_G} {ρ : Nat → Nat} {A : Nat → Prop} {K : gKd}
set_option maxHeartbeats 4000000 in
set_option maxRecDepth 100000 in
theorem t_Law_it (C : gX "TermDeskLaw" code 7 ret 12 428 R cells slots cy D ρ A p s m args meth c) (X2 : gX2 A s) (X3 : gX3 A K s s.heap) (hfl : l.stackTraces = false) (hc1 : cells + 1 ≤ R.cells) (hc2 : slots + 6 ≤ R.slots) {b L : Nat} {xs : Nat → Int32} (hX : va_X b L xs s s.heap) (hbl : b < s.heap.size) (hbA : ¬ A b) {x4 : Int32} {u z : gSt} (hM : M_Law_it L xs x4 u = some z) (hN : ∀ (ls : Array Slot) (H : Heap) (locs : List Loc), lv_has ls 7 [(0, .ref b), (1, .ref (ρ 0)), (2, .ref (ρ 42)), (3, .ref (ρ 66)), (4, .int (x4 + (6 : Int32)))] → va_P D gCl (gW cy ρ z) H → va_S A s.heap H locs → W p l e R s m args below meth c H locs (cells + 1) (slots + 6) Q (F0 m 23 ls [])) (ls : Array Slot) (H : Heap) (locs : List Loc) (hl : lv_has ls 7 [(0, .ref b), (1, .ref (ρ 0)), (2, .ref (ρ 42)), (3, .ref (ρ 66)), (4, .int x4)]) (hP : va_P D gCl (gW cy ρ u) H) (hS : va_S A s.heap H locs) : W p l e R s m args below meth c H locs cells slots Q (F0 m 33 ls []) := by
  have hx := C.1
  have hb := C.2.1
  unfold M_Law_it at hM
  obtain ⟨hi, hM⟩ := gc_some hM
  refine lv_aload_n hx hb d_law_33 rfl (lv_at hl 0 rfl) ?_
  refine lv_iload hx hb d_law_34 (lv_at hl 4 rfl) ?_
  refine va_sld hx hb hX hbl hbA hS (gIn_in hi) d_law_36 ?_
  refine lv_bipush (v := (15 : Int32)) hx hb d_law_37 (by decide) ?_
  refine lv_iand hx hb d_law_39 ?_
  by_cases hk0 : xs (gIx x4) &&& (15 : Int32) = 0
  · replace hM := gi_t hk0 hM
    refine g_tabIn (v := 0) (tgt := 112) hx hb d_law_40 hk0 (by decide) (by decide) (off := 72) (by decide) (by decide) ?_
    exact t_Law_c0 C X2 hfl hc1 hc2 hX hbl hbA hM hN ls H locs hl hP hS
  replace hM := gi_f hk0 hM
  by_cases hk1 : xs (gIx x4) &&& (15 : Int32) = 1
  · replace hM := gi_t hk1 hM
    refine g_tabIn (v := 1) (tgt := 216) hx hb d_law_40 hk1 (by decide) (by decide) (off := 176) (by decide) (by decide) ?_
    exact t_Law_c1 C X2 hfl hc1 hc2 hX hbl hbA hM hN ls H locs hl hP hS
  replace hM := gi_f hk1 hM
  by_cases hk2 : xs (gIx x4) &&& (15 : Int32) = 2
  · replace hM := gi_t hk2 hM
    refine g_tabIn (v := 2) (tgt := 272) hx hb d_law_40 hk2 (by decide) (by decide) (off := 232) (by decide) (by decide) ?_
    exact t_Law_c2 C X2 X3 hfl hc1 hc2 hX hbl hbA hM hN ls H locs hl hP hS
  replace hM := gi_f hk2 hM
  by_cases hk3 : xs (gIx x4) &&& (15 : Int32) = 3
  · replace hM := gi_t hk3 hM
    refine g_tabIn (v := 3) (tgt := 285) hx hb d_law_40 hk3 (by decide) (by decide) (off := 245) (by decide) (by decide) ?_
    exact t_Law_c3 C X2 hfl hc1 hc2 hX hbl hbA hM hN ls H locs hl hP hS
  replace hM := gi_f hk3 hM
  by_cases hk4 : xs (gIx x4) &&& (15 : Int32) = 4
  · replace hM := gi_t hk4 hM
    refine g_tabIn (v := 4) (tgt := 341) hx hb d_law_40 hk4 (by decide) (by decide) (off := 301) (by decide) (by decide) ?_
    exact t_Law_c4 C X2 hfl hc1 hc2 hX hbl hbA hM hN ls H locs hl hP hS
  replace hM := gi_f hk4 hM
  by_cases hk5 : xs (gIx x4) &&& (15 : Int32) = 5
  · replace hM := gi_t hk5 hM
    refine g_tabIn (v := 5) (tgt := 397) hx hb d_law_40 hk5 (by decide) (by decide) (off := 357) (by decide) (by decide) ?_
    exact t_Law_c5 C X2 hfl hc1 hc2 hX hbl hbA hM hN ls H locs hl hP hS
  replace hM := gi_f hk5 hM
  by_cases hk6 : xs (gIx x4) &&& (15 : Int32) = 6
  · replace hM := gi_t hk6 hM
    refine g_tabIn (v := 6) (tgt := 465) hx hb d_law_40 hk6 (by decide) (by decide) (off := 425) (by decide) (by decide) ?_
    exact t_Law_c6 C X2 hfl hc1 hc2 hX hbl hbA hM hN ls H locs hl hP hS
  replace hM := gi_f hk6 hM
  by_cases hk7 : xs (gIx x4) &&& (15 : Int32) = 7
  · replace hM := gi_t hk7 hM
    refine g_tabIn (v := 7) (tgt := 561) hx hb d_law_40 hk7 (by decide) (by decide) (off := 521) (by decide) (by decide) ?_
    exact t_Law_c7 C X2 hfl hc1 hc2 hX hbl hbA hM hN ls H locs hl hP hS
  replace hM := gi_f hk7 hM
  by_cases hk8 : xs (gIx x4) &&& (15 : Int32) = 8
  · replace hM := gi_t hk8 hM
    refine g_tabIn (v := 8) (tgt := 636) hx hb d_law_40 hk8 (by decide) (by decide) (off := 596) (by decide) (by decide) ?_
    exact t_Law_c8 C X2 hfl hc1 hc2 hX hbl hbA hM hN ls H locs hl hP hS
  replace hM := gi_f hk8 hM
  by_cases hk9 : xs (gIx x4) &&& (15 : Int32) = 9
  · replace hM := gi_t hk9 hM
    refine g_tabIn (v := 9) (tgt := 711) hx hb d_law_40 hk9 (by decide) (by decide) (off := 671) (by decide) (by decide) ?_
    exact t_Law_c9 C X2 hfl hc1 hc2 hX hbl hbA hM hN ls H locs hl hP hS
  replace hM := gi_f hk9 hM
  by_cases hk10 : xs (gIx x4) &&& (15 : Int32) = 10
  · replace hM := gi_t hk10 hM
    refine g_tabIn (v := 10) (tgt := 791) hx hb d_law_40 hk10 (by decide) (by decide) (off := 751) (by decide) (by decide) ?_
    exact t_Law_c10 C X2 hfl hc1 hc2 hX hbl hbA hM hN ls H locs hl hP hS
  replace hM := gi_f hk10 hM
  by_cases hk11 : xs (gIx x4) &&& (15 : Int32) = 11
  · replace hM := gi_t hk11 hM
    refine g_tabIn (v := 11) (tgt := 859) hx hb d_law_40 hk11 (by decide) (by decide) (off := 819) (by decide) (by decide) ?_
    exact t_Law_c11 C X2 hfl hc1 hc2 hX hbl hbA hM hN ls H locs hl hP hS
  replace hM := gi_f hk11 hM
  by_cases hk12 : xs (gIx x4) &&& (15 : Int32) = 12
  · replace hM := gi_t hk12 hM
    refine g_tabIn (v := 12) (tgt := 939) hx hb d_law_40 hk12 (by decide) (by decide) (off := 899) (by decide) (by decide) ?_
    exact t_Law_c12 C X2 hfl hc1 hc2 hX hbl hbA hM hN ls H locs hl hP hS
  replace hM := gi_f hk12 hM
  by_cases hk13 : xs (gIx x4) &&& (15 : Int32) = 13
  · replace hM := gi_t hk13 hM
    refine g_tabIn (v := 13) (tgt := 964) hx hb d_law_40 hk13 (by decide) (by decide) (off := 924) (by decide) (by decide) ?_
    exact t_Law_c13 C X2 hfl hc1 hc2 hX hbl hbA hM hN ls H locs hl hP hS
  replace hM := gi_f hk13 hM
  refine lv_tableOut (tgt := 975) hx hb d_law_40 (by have e0 := gneI (k := 0) hk0 (by decide); have e1 := gneI (k := 1) hk1 (by decide); have e2 := gneI (k := 2) hk2 (by decide); have e3 := gneI (k := 3) hk3 (by decide); have e4 := gneI (k := 4) hk4 (by decide); have e5 := gneI (k := 5) hk5 (by decide); have e6 := gneI (k := 6) hk6 (by decide); have e7 := gneI (k := 7) hk7 (by decide); have e8 := gneI (k := 8) hk8 (by decide); have e9 := gneI (k := 9) hk9 (by decide); have e10 := gneI (k := 10) hk10 (by decide); have e11 := gneI (k := 11) hk11 (by decide); have e12 := gneI (k := 12) hk12 (by decide); have e13 := gneI (k := 13) hk13 (by decide); change Int32.toInt (xs (gIx x4) &&& (15 : Int32)) < 0 ∨ 13 < Int32.toInt (xs (gIx x4) &&& (15 : Int32)); omega) (by decide) ?_
  obtain rfl := Option.some.inj hM
  refine lv_iinc (k := 4) (v := x4 + (6 : Int32)) (lv' := [(4, .int (x4 + (6 : Int32))), (0, .ref b), (1, .ref (ρ 0)), (2, .ref (ρ 42)), (3, .ref (ρ 66))]) hx hb d_law_975 hl rfl (congrArg (fun z => x4 + z) (by decide)) (by decide) rfl (fun ls hl => ?_)
  refine lv_goto (tgt := 23) hx hb d_law_978 (by decide) ?_
  refine W.widen (k := cells + 1) (n := slots + 6) (by omega) (by omega) ?_
  exact hN ls H locs (lv_sub hl [1, 2, 3, 4, 0] rfl) hP hS
theorem t_Law_end {b : Nat} (C : gX "TermDeskLaw" code 7 ret 12 428 room_1 0 0 cy D ρ (fun q => s.heap.size ≤ q) p s m #[Value.ref b] meth c) {H : Heap} {locs : List Loc} {ls : Array Slot} (hS : va_S (fun q => s.heap.size ≤ q) s.heap H locs) (h1 : cells ≤ 601024) (h2 : slots ≤ 7293034) : W p l e room_1 s m #[Value.ref b] below meth c H locs cells slots (lw_Z below #[Value.ref b] s) (F0 m 981 ls []) := by
  have hx := C.1
  have hb := C.2.1
  refine va_forget hS.2.2 ?_
  refine W.widen h1 h2 ?_
  refine lv_iconst (v := 1) hx hb d_law_981 (by decide) ?_
  exact lw_ret hx hb C.2.2.2.1 C.2.2.2.2.2.2.2.2.2.2 d_law_982
/-- the law's loop: an invariant of the worlds that every round keeps -/
theorem law_loop {b : Nat} (C : gX "TermDeskLaw" code 7 ret 12 428 room_1 0 0 cy D ρ (fun q => s.heap.size ≤ q) p s m #[Value.ref b] meth c) (X2 : gX2 (fun q => s.heap.size ≤ q) s) (X3 : gX3 (fun q => s.heap.size ≤ q) K s s.heap) (hfl : l.stackTraces = false) {L : Nat} {xs : Nat → Int32} (hX : va_X b L xs s s.heap) (hbl : b < s.heap.size) (hL : L ≤ 3072) (Inv : gSt → Prop) (hstep : ∀ (j : Nat) (u : gSt), 6 * j + 6 ≤ L → Inv u → ∃ u', M_Law_it L xs (nI (6 * j)) u = some u' ∧ Inv u') :
    ∀ (k j cells slots : Nat) (u : gSt), 6 * j + 6 * k ≤ L → L < 6 * j + 6 * k + 6 → cells + k ≤ 601024 → slots + 6 * k ≤ 7293034 → Inv u → ∀ (ls : Array Slot) (H : Heap) (locs : List Loc), lv_has ls 7 [(0, .ref b), (1, .ref (ρ 0)), (2, .ref (ρ 42)), (3, .ref (ρ 66)), (4, .int (nI (6 * j)))] → va_P D gCl (gW cy ρ u) H → va_S (fun q => s.heap.size ≤ q) s.heap H locs → W p l e room_1 s m #[Value.ref b] below meth c H locs cells slots (lw_Z below #[Value.ref b] s) (F0 m 23 ls []) := by
  have hx := C.1
  have hb := C.2.1
  have hbA : ¬ s.heap.size ≤ b := Nat.not_le.mpr hbl
  intro k
  induction k with
  | zero =>
    intro j cells slots u h1 h2 h3 h4 hI ls H locs hl hP hS
    refine lv_iload hx hb d_law_23 (lv_at hl 4 rfl) ?_
    refine lv_aload_n hx hb d_law_25 rfl (lv_at hl 0 rfl) ?_
    refine va_slen hx hb hX hbl hbA hS d_law_26 ?_
    refine lv_bipush (v := (6 : Int32)) hx hb d_law_27 (by decide) ?_
    refine lv_isub hx hb d_law_29 ?_
    refine lv_icmp_gt (tgt := 981) hx hb d_law_30 (by decide) (fun _ => t_Law_end C hS (by omega) (by omega)) (fun h => absurd ?_ h)
    rw [Int32.lt_iff_toInt_lt, show (Int32.ofNat L - (6 : Int32)) = nI L - nI 6 from rfl, pk_sub_toInt (by omega) (by omega), nI_toInt (by omega)]
    omega
  | succ k ih =>
    intro j cells slots u h1 h2 h3 h4 hI ls H locs hl hP hS
    obtain ⟨u', hM, hI'⟩ := hstep j u (by omega) hI
    have hC := gX_more C (c1 := cells) (s1 := slots) (by show cells ≤ 601024; omega) (by show slots ≤ 7293034; omega)
    refine lv_iload hx hb d_law_23 (lv_at hl 4 rfl) ?_
    refine lv_aload_n hx hb d_law_25 rfl (lv_at hl 0 rfl) ?_
    refine va_slen hx hb hX hbl hbA hS d_law_26 ?_
    refine lv_bipush (v := (6 : Int32)) hx hb d_law_27 (by decide) ?_
    refine lv_isub hx hb d_law_29 ?_
    refine lv_icmp_gt (tgt := 981) hx hb d_law_30 (by decide) (fun h => absurd h ?_) (fun _ => ?_)
    · rw [Int32.lt_iff_toInt_lt, show (Int32.ofNat L - (6 : Int32)) = nI L - nI 6 from rfl, pk_sub_toInt (by omega) (by omega), nI_toInt (by omega)]
      omega
    · refine t_Law_it hC X2 X3 hfl (by show cells + 1 ≤ 601024; omega) (by show slots + 6 ≤ 7293034; omega) hX hbl hbA hM (fun ls H locs hl hP hS => ?_) ls H locs hl hP hS
      have e6 : nI (6 * j) + (6 : Int32) = nI (6 * (j + 1)) := by
        rw [show (6 : Int32) = nI 6 from rfl, nI_add]
        rfl
      rw [e6] at hl
      exact ih (j + 1) (cells + 1) (slots + 6) u' (by omega) (by omega) (by omega) (by omega) hI' ls H locs hl hP hS
end
