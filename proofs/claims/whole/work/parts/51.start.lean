/-! What the start gives: the classes, the constants, the strings. -/
def st_nm : List String := ["TERM", "ALIAS", "ISA", "PART", "OLD", "GENE", "NOTE", "NOT", "STUDY"]
def st_ix : List Nat := [64, 70, 73, 76, 79, 82, 85, 88, 91]
def st_tm (i : Nat) : Term := .static "TermDesk$LineKind" (st_nm.getD i "") "LTermDesk$LineKind;"
def st_st (i : Nat) : Term := .string "TermDesk$LineKind" (st_ix.getD i 0)
def st_fl : List Cond := flatC (Jvm.Cond.and given_1 narrow_1)
set_option maxRecDepth 100000 in
theorem st_1 : ∀ i, i < 9 → Cond.exactly (st_tm i) "TermDesk$LineKind" ∈ st_fl := by decide +kernel
set_option maxRecDepth 100000 in
theorem st_2 : ∀ i, i < 9 → Cond.eq (.field (st_tm i) "java/lang/Enum" "ordinal" "I") (.int (nI i)) ∈ st_fl := by decide +kernel
set_option maxRecDepth 100000 in
theorem st_3 : ∀ i, i < 9 → Cond.eq (.field (st_tm i) "TermDesk$LineKind" "word" "Ljava/lang/String;") (st_st i) ∈ st_fl := by decide +kernel
set_option maxRecDepth 100000 in
theorem st_4 : ∀ i, i < 9 → Cond.eq (.field (st_tm i) "TermDesk$LineKind" "second" "I") (.int (gSec.getD i 0)) ∈ st_fl := by decide +kernel
set_option maxRecDepth 100000 in
theorem st_5 : ∀ i, i < 9 → Cond.eq (.field (st_tm i) "TermDesk$LineKind" "third" "I") (.int (gThi.getD i 0)) ∈ st_fl := by decide +kernel
set_option maxRecDepth 100000 in
theorem st_6 : ∀ i, i < 9 → Cond.exactly (st_st i) "java/lang/String" ∈ st_fl := by decide +kernel
set_option maxRecDepth 100000 in
theorem st_7 : ∀ i, i < 9 → Cond.eq (.field (st_st i) "java/lang/String" "coder" "B") (.int 0) ∈ st_fl := by decide +kernel
set_option maxRecDepth 100000 in
theorem st_8 : ∀ i, i < 9 → Cond.arrayOf (.field (st_st i) "java/lang/String" "value" "[B") .byte ∈ st_fl := by decide +kernel
set_option maxRecDepth 100000 in
theorem st_9 : ∀ i, i < 9 → Cond.eq (.length (.field (st_st i) "java/lang/String" "value" "[B")) (.int (Int32.ofNat (gSl i))) ∈ st_fl := by decide +kernel
set_option maxRecDepth 100000 in
theorem st_10_0 : ∀ j, j < gSl 0 → Cond.eq (.elem (.field (st_st 0) "java/lang/String" "value" "[B") (.int (Int32.ofNat j))) (.int (gSb 0 j)) ∈ st_fl := by decide +kernel
set_option maxRecDepth 100000 in
theorem st_10_1 : ∀ j, j < gSl 1 → Cond.eq (.elem (.field (st_st 1) "java/lang/String" "value" "[B") (.int (Int32.ofNat j))) (.int (gSb 1 j)) ∈ st_fl := by decide +kernel
set_option maxRecDepth 100000 in
theorem st_10_2 : ∀ j, j < gSl 2 → Cond.eq (.elem (.field (st_st 2) "java/lang/String" "value" "[B") (.int (Int32.ofNat j))) (.int (gSb 2 j)) ∈ st_fl := by decide +kernel
set_option maxRecDepth 100000 in
theorem st_10_3 : ∀ j, j < gSl 3 → Cond.eq (.elem (.field (st_st 3) "java/lang/String" "value" "[B") (.int (Int32.ofNat j))) (.int (gSb 3 j)) ∈ st_fl := by decide +kernel
set_option maxRecDepth 100000 in
theorem st_10_4 : ∀ j, j < gSl 4 → Cond.eq (.elem (.field (st_st 4) "java/lang/String" "value" "[B") (.int (Int32.ofNat j))) (.int (gSb 4 j)) ∈ st_fl := by decide +kernel
set_option maxRecDepth 100000 in
theorem st_10_5 : ∀ j, j < gSl 5 → Cond.eq (.elem (.field (st_st 5) "java/lang/String" "value" "[B") (.int (Int32.ofNat j))) (.int (gSb 5 j)) ∈ st_fl := by decide +kernel
set_option maxRecDepth 100000 in
theorem st_10_6 : ∀ j, j < gSl 6 → Cond.eq (.elem (.field (st_st 6) "java/lang/String" "value" "[B") (.int (Int32.ofNat j))) (.int (gSb 6 j)) ∈ st_fl := by decide +kernel
set_option maxRecDepth 100000 in
theorem st_10_7 : ∀ j, j < gSl 7 → Cond.eq (.elem (.field (st_st 7) "java/lang/String" "value" "[B") (.int (Int32.ofNat j))) (.int (gSb 7 j)) ∈ st_fl := by decide +kernel
set_option maxRecDepth 100000 in
theorem st_10_8 : ∀ j, j < gSl 8 → Cond.eq (.elem (.field (st_st 8) "java/lang/String" "value" "[B") (.int (Int32.ofNat j))) (.int (gSb 8 j)) ∈ st_fl := by decide +kernel
theorem st_10 (i : Nat) (hi : i < 9) (j : Nat) (hj : j < gSl i) : Cond.eq (.elem (.field (st_st i) "java/lang/String" "value" "[B") (.int (Int32.ofNat j))) (.int (gSb i j)) ∈ st_fl := by
  rcases (by omega : i = 0 ∨ i = 1 ∨ i = 2 ∨ i = 3 ∨ i = 4 ∨ i = 5 ∨ i = 6 ∨ i = 7 ∨ i = 8) with rfl | rfl | rfl | rfl | rfl | rfl | rfl | rfl | rfl
  · exact st_10_0 j hj
  · exact st_10_1 j hj
  · exact st_10_2 j hj
  · exact st_10_3 j hj
  · exact st_10_4 j hj
  · exact st_10_5 j hj
  · exact st_10_6 j hj
  · exact st_10_7 j hj
  · exact st_10_8 j hj
set_option maxRecDepth 100000 in
theorem st_11 : ∀ j, j < 9 → Cond.eq (.elem (.static "TermDesk" "LINE_KINDS" "[LTermDesk$LineKind;") (.int (Int32.ofNat j))) (st_tm j) ∈ st_fl := by decide +kernel
set_option maxRecDepth 100000 in
theorem st_12 : ∀ j, j < 9 → Cond.eq (.elem (.static "TermDesk$1" "$SwitchMap$TermDesk$LineKind" "[I") (.int (Int32.ofNat j))) (.int (gSwt.getD j 0)) ∈ st_fl := by decide +kernel
set_option maxRecDepth 100000 in
theorem st_13 : ∀ i, i < 9 → gSl i < 2 ^ 31 := by decide +kernel
set_option maxRecDepth 100000 in
theorem st_X3 {s : State} {args : Array Value} {A : Nat → Prop} (hts : ∀ w ∈ lw_tbl, w.before args s = true) (hfl : ∀ w ∈ st_fl, w.before args s = true) (hA : ∀ a : Nat, a < s.heap.size → ¬ A a) : ∃ K : gKd, gX3 A K s s.heap := by
  have hS : ∀ i : Nat, ∃ q : Nat × Nat, i < 9 → (st_st i).eval args s none [] s = some (.ref q.1) ∧ va_O "java/lang/String" q.1 A s s.heap ∧ va_OF "java/lang/String" "coder" "B" (.int 0) q.1 A s s.heap ∧ va_OF "java/lang/String" "value" "[B" (.ref q.2) q.1 A s s.heap ∧ va_T .byte q.2 (gSl i) (fun j => .int (gSb i j)) A s s.heap := by
    intro i
    by_cases hi : i < 9
    · obtain ⟨a, c, cA, kA, q1, -⟩ := Cond.exactly_spec (args := args) (first := s) (o := none) (s := s) (idx := []) (t := st_st i) (cls := "java/lang/String") (hfl _ (st_6 i hi))
      obtain ⟨t, ht, hT⟩ := va_Tof (f := fun j => .int (gSb i j)) (A := A) (st_13 i hi) (hfl _ (st_8 i hi)) (va_eqt (hfl _ (st_9 i hi))) (fun j hj => va_eqt (hfl _ (st_10 i hi j hj))) hA
      exact ⟨(a, t), fun _ => ⟨q1, va_Oof (hfl _ (st_6 i hi)) q1 hA, vk_OFof q1 (va_eqt (hfl _ (st_7 i hi))) hA, vk_OFof q1 ht hA, hT⟩⟩
    · exact ⟨(0, 0), fun h => absurd h hi⟩
  obtain ⟨sd, hsd⟩ := Classical.axiomOfChoice hS
  have hE : ∀ i : Nat, ∃ q : Nat, i < 9 → (st_tm i).eval args s none [] s = some (.ref q) ∧ va_O "TermDesk$LineKind" q A s s.heap := by
    intro i
    by_cases hi : i < 9
    · obtain ⟨a, c, cA, kA, q1, -⟩ := Cond.exactly_spec (args := args) (first := s) (o := none) (s := s) (idx := []) (t := st_tm i) (cls := "TermDesk$LineKind") (hfl _ (st_1 i hi))
      exact ⟨a, fun _ => ⟨q1, va_Oof (hfl _ (st_1 i hi)) q1 hA⟩⟩
    · exact ⟨0, fun h => absurd h hi⟩
  obtain ⟨ad, had⟩ := Classical.axiomOfChoice hE
  obtain ⟨t1, e1, T1⟩ := va_Tof (args := args) (s := s) (tm := .static "TermDesk" "LINE_KINDS" "[LTermDesk$LineKind;") (ty := .object "TermDesk$LineKind") (N := 9) (f := fun j => .ref (ad j)) (A := A) (by decide) (hfl _ (by decide +kernel)) (va_eqt (hfl _ (by decide +kernel))) (fun j hj => va_eqv (hfl _ (st_11 j hj)) (had j hj).1) hA
  obtain ⟨t2, e2, T2⟩ := va_Tof (args := args) (s := s) (tm := .static "TermDesk$1" "$SwitchMap$TermDesk$LineKind" "[I") (ty := .int) (N := 9) (f := fun j => .int (gSwt.getD j 0)) (A := A) (by decide) (hfl _ (by decide +kernel)) (va_eqt (hfl _ (by decide +kernel))) (fun j hj => va_eqt (hfl _ (st_12 j hj))) hA
  refine ⟨(t1, t2, ad, fun i => (sd i).1, fun i => (sd i).2), ⟨va_Zof (hts _ (by decide +kernel)) (hts _ (by decide +kernel)) e1 hA, T1⟩, ⟨va_Zof (hts _ (by decide +kernel)) (hts _ (by decide +kernel)) e2 hA, T2⟩, fun i hi => ⟨(had i hi).2, vk_OFof (had i hi).1 (va_eqv (hfl _ (st_3 i hi)) (hsd i hi).1) hA, vk_OFof (had i hi).1 (va_eqt (hfl _ (st_4 i hi))) hA, vk_OFof (had i hi).1 (va_eqt (hfl _ (st_5 i hi))) hA, vk_OFof (had i hi).1 (va_eqt (hfl _ (st_2 i hi))) hA⟩, fun i hi => (hsd i hi).2, va_Zof (hts _ (by decide +kernel)) (hts _ (by decide +kernel)) (va_eqt (hfl _ (by decide +kernel))) hA, va_Zqof (hts _ (by decide +kernel)) (hts _ (by decide +kernel)) (hfl _ (by decide +kernel)) hA⟩
theorem st_Z1 {s : State} {args : Array Value} {A : Nat → Prop} {n d : String} (hl : (Cond.laysStatic "java/lang/Throwable" n d).before args s = true) (h : (Cond.isRef (.static "java/lang/Throwable" n d)).before args s = true) (hA : ∀ a : Nat, a < s.heap.size → ¬ A a) : gZ1 n d A s s.heap := by
  obtain ⟨c, k, i, f, a, cell, hc, hi, hst, ha, hcell, hs, hcls, hlt, hty⟩ := Cond.laysStatic_spec hl
  cases hv : (Term.static "java/lang/Throwable" n d).eval args s none [] s with
  | none => simp [Cond.before, Cond.holds, Cond.value, hv] at h
  | some w =>
    obtain ⟨hst', a', cell', ha', hcell', -, hslot⟩ := Term.static_spec hi hv
    cases ha.symm.trans ha'
    cases hcell.symm.trans hcell'
    have hw : w.isRef = true := by
      simp only [Cond.before, Cond.holds, Cond.value, hv] at h
      cases w <;> first | rfl | simp at h
    exact ⟨c, k, i, f, a, cell, w, hc, hi, hst, ha, hcell, hs, hcls, hlt, hty, hslot, hw, hA a (Array.getElem?_eq_some_iff.mp hcell).1⟩
set_option maxRecDepth 100000 in
theorem st_15 : ∀ q ∈ gStrs, Cond.stringRef "TermDesk" q.1 q.2 ∈ lw_tbl := by decide +kernel
set_option maxRecDepth 100000 in
theorem st_16 : ∀ q ∈ gStrs, Cond.exactly (.string "TermDesk" q.1) "java/lang/String" ∈ st_fl := by decide +kernel
set_option maxRecDepth 100000 in
theorem st_X2 {s : State} {args : Array Value} {A : Nat → Prop} (hts : ∀ w ∈ lw_tbl, w.before args s = true) (hfl : ∀ w ∈ st_fl, w.before args s = true) (hA : ∀ a : Nat, a < s.heap.size → ¬ A a) : gX2 A s := by
  refine ⟨fun w hw => va_Nw.of (gFs_tab hw) (hts w (List.mem_filter.mp hw).1), st_Z1 (hts _ (by decide +kernel)) (hfl _ (by decide +kernel)) hA, st_Z1 (hts _ (by decide +kernel)) (hfl _ (by decide +kernel)) hA, fun q hq => ?_, va_Nc.of (hfl _ (by decide +kernel))⟩
  obtain ⟨a, c, cA, kA, q1, -⟩ := Cond.exactly_spec (args := args) (first := s) (o := none) (s := s) (idx := []) (t := .string "TermDesk" q.1) (cls := "java/lang/String") (hfl _ (st_16 q hq))
  exact ⟨a, vk_R.of (hts _ (st_15 q hq)) q1⟩
set_option maxRecDepth 100000 in
theorem st_K {s : State} {args : Array Value} (hts : ∀ w ∈ lw_tbl, w.before args s = true) : ∃ (cy : Nat → ClassId) (D : va_G), va_K D gCl (gTys cy) s ∧ gAO cy s := by
  have hg : ∀ w ∈ gWs, w.before args s = true := fun w hw => hts w (List.mem_filter.mp hw).1
  obtain ⟨c0, i0, k0⟩ := u_known (C := gR0) (T := gT0) (N := 8) (n := 8) hg gin0 (hts _ (by decide +kernel))
  obtain ⟨c1, i1, k1⟩ := u_known (C := gR1) (T := gT1) (N := 8) (n := 8) hg gin1 (hts _ (by decide +kernel))
  obtain ⟨c2, i2, k2⟩ := u_known (C := gR2) (T := gT2) (N := 6) (n := 6) hg gin2 (hts _ (by decide +kernel))
  obtain ⟨c3, i3, k3⟩ := u_known (C := gR3) (T := gT3) (N := 12) (n := 12) hg gin3 (hts _ (by decide +kernel))
  obtain ⟨c4, i4, k4⟩ := u_known (C := gR4) (T := gT4) (N := 4) (n := 4) hg gin4 (hts _ (by decide +kernel))
  obtain ⟨c5, i5, k5⟩ := u_known (C := gR5) (T := gT5) (N := 1) (n := 1) hg gin5 (hts _ (by decide +kernel))
  obtain ⟨c6, i6, k6⟩ := u_known (C := gR6) (T := gT6) (N := 14) (n := 14) hg gin6 (hts _ (by decide +kernel))
  obtain ⟨c7, i7, k7⟩ := u_known (C := gR7) (T := gT7) (N := 4) (n := 4) hg gin7 (hts _ (by decide +kernel))
  obtain ⟨c8, i8, k8⟩ := u_known (C := gR8) (T := gT8) (N := 42) (n := 42) hg gin8 (hts _ (by decide +kernel))
  obtain ⟨a0, g0, h0, u0, v0, w0⟩ := Cond.arrayClass_spec (hts (.arrayClass .byte) (by decide +kernel))
  obtain ⟨a1, g1, h1, u1, v1, w1⟩ := Cond.arrayClass_spec (hts (.arrayClass .char) (by decide +kernel))
  obtain ⟨a2, g2, h2, u2, v2, w2⟩ := Cond.arrayClass_spec (hts (.arrayClass .int) (by decide +kernel))
  obtain ⟨a3, g3, h3, u3, v3, w3⟩ := Cond.arrayClass_spec (hts (.arrayClass .boolean) (by decide +kernel))
  obtain ⟨a4, g4, h4, u4, v4, w4⟩ := Cond.arrayClass_spec (hts (.arrayClass .long) (by decide +kernel))
  obtain ⟨cI, a5, g5, u5, -, v5, w5, x5⟩ := arrayOverA_spec (hts (.arrayOver (.array .int)) (by decide +kernel))
  have e5 : cI = a2 := Option.some.inj (u5.symm.trans u2)
  subst e5
  refine ⟨fun k => [a0, a1, cI, a3, a4, a5].getD (k - 20) 0, (fun c => [c0, c1, c2, c3, c4, c5, c6, c7, c8].getD c 0, fun c => [i0, i1, i2, i3, i4, i5, i6, i7, i8].getD c (fun _ => 0)), ⟨fun c q hq => ?_, fun k q hk => ?_⟩, g5, v5, w5⟩
  · match c, hq with
    | 0, hq => cases hq; exact k0
    | 1, hq => cases hq; exact k1
    | 2, hq => cases hq; exact k2
    | 3, hq => cases hq; exact k3
    | 4, hq => cases hq; exact k4
    | 5, hq => cases hq; exact k5
    | 6, hq => cases hq; exact k6
    | 7, hq => cases hq; exact k7
    | 8, hq => cases hq; exact k8
    | n + 9, hq => exact absurd (List.getElem?_eq_some_iff.mp hq).1 (by show ¬ (n + 9 < 9); omega)
  · match k, hk with
    | 0, hk => cases hk; exact ⟨fun n z => ⟨fun q h => (by cases h), g0, v0, h0, w0⟩, u0⟩
    | 1, hk => cases hk; exact ⟨fun n z => ⟨fun q h => (by cases h), g1, v1, h1, w1⟩, u1⟩
    | 2, hk => cases hk; exact ⟨fun n z => ⟨fun q h => (by cases h), g2, v2, h2, w2⟩, u2⟩
    | 3, hk => cases hk; exact ⟨fun n z => ⟨fun q h => (by cases h), g3, v3, h3, w3⟩, u3⟩
    | 4, hk => cases hk; exact ⟨fun n z => ⟨fun q h => (by cases h), g4, v4, h4, w4⟩, u4⟩
    | 5, hk => cases hk; exact ⟨fun n z => ⟨fun q h => (by cases h), g5, v5, cI, w5⟩, x5⟩
    | n + 6, hk => exact absurd (List.getElem?_eq_some_iff.mp hk).1 (by show ¬ (n + 6 < 6); omega)
