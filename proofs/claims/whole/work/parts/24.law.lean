/-! printed by wip/whole/gen/gen.py -/
section
variable {p : Program} {l : Launch} {e : Env} {R : Room} {s : State} {m : MethodId} {args : Array Value} {below : List Frame} {meth : Method} {c : Code} {H : Heap} {locs : List Loc} {cells slots c0 s0 : Nat} {cc : ByteArray} {pc nL : Nat} {ls : Array Slot} {D : va_G} {A : Nat → Prop} {cy : Nat → ClassId} {ρ : Nat → Nat} {u : gSt} {own : String} {f n : Nat}
theorem g_iretU (X : gX own cc nL (some .int) f n R c0 s0 cy D ρ A p s m args meth c) (X2 : gX2 A s) (hP : va_P D gCl (gW cy ρ u) H) (hS : va_S A s.heap H locs) (hc : cells ≤ 1) (hs : slots ≤ 6) {v : Int32} (hdg : decode cc pc = .ok (.ireturn, 1)) : W p l e R s m args below meth c H locs cells slots (MQ below (va_Qi (fun r1 v1 => r1 = v ∧ v1 = u) (fun v U => gB cy D ρ v U ∧ gX2 A U) A) args s 1 6 A) (F0 m pc ls [.int v]) := by
  have X' := X
  obtain ⟨hx, hb, hml, hr, hown, hts, hns, hK, hD, -, hlk⟩ := X
  refine W.widen hc hs ?_
  exact W.iret hx hb hr (fun t ht hW => ⟨⟨v, u, rfl, ⟨rfl, rfl⟩, gB_pre X' hP ht hW, gX2_to X2 hS ht hW⟩, hS.F ht⟩) hS.2.2 hdg hlk
end
section
def y_Law_feed : MethodName := ⟨"TermDeskLaw", "feed", "(LTermDesk;IIIII[J)I"⟩
theorem d_Law_feed_0 : decode method_3_code 0 = .ok (.aload 6, 2) := by decide +kernel
theorem d_Law_feed_2 : decode method_3_code 2 = .ok (.iconst 0, 1) := by decide +kernel
theorem d_Law_feed_3 : decode method_3_code 3 = .ok (.aload_n 0, 1) := by decide +kernel
theorem d_Law_feed_4 : decode method_3_code 4 = .ok (.iload_n 1, 1) := by decide +kernel
theorem d_Law_feed_5 : decode method_3_code 5 = .ok (.iload_n 2, 1) := by decide +kernel
theorem d_Law_feed_6 : decode method_3_code 6 = .ok (.iload_n 3, 1) := by decide +kernel
theorem d_Law_feed_7 : decode method_3_code 7 = .ok (.iload 4, 2) := by decide +kernel
theorem d_Law_feed_9 : decode method_3_code 9 = .ok (.iload 5, 2) := by decide +kernel
theorem d_Law_feed_11 : decode method_3_code 11 = .ok (.invokevirtual 7, 3) := by decide +kernel
theorem d_Law_feed_14 : decode method_3_code 14 = .ok (.i2l, 1) := by decide +kernel
theorem d_Law_feed_15 : decode method_3_code 15 = .ok (.lastore, 1) := by decide +kernel
theorem d_Law_feed_16 : decode method_3_code 16 = .ok (.goto 7, 3) := by decide +kernel
theorem d_Law_feed_19 : decode method_3_code 19 = .ok (.astore 7, 2) := by decide +kernel
theorem d_Law_feed_21 : decode method_3_code 21 = .ok (.iconst 1, 1) := by decide +kernel
theorem d_Law_feed_22 : decode method_3_code 22 = .ok (.ireturn, 1) := by decide +kernel
theorem d_Law_feed_23 : decode method_3_code 23 = .ok (.iconst 0, 1) := by decide +kernel
theorem d_Law_feed_24 : decode method_3_code 24 = .ok (.ireturn, 1) := by decide +kernel
noncomputable def M_Law_feed (x1 : Int32) (x2 : Int32) (x3 : Int32) (x4 : Int32) (x5 : Int32) (u : gSt) : Option (Int32 × gSt) :=
  match E_Desk_feed x1 x2 x3 x4 x5 u with
  | some k => if k = 0 then (some ((1 : Int32), u)) else none
  | none => (M_Desk_feed x1 x2 x3 x4 x5 u).bind fun q11 =>
    gc (gIn (0 : Int32) (gLen 66)) <| (some (gsL q11.2 66 (gIx (0 : Int32)) q11.1.toInt64)).bind fun u15 =>
    some ((0 : Int32), u15)
set_option maxHeartbeats 4000000 in
set_option maxRecDepth 100000 in
theorem c_Law_feed {l : Launch} {cy : Nat → ClassId} {D : va_G} {ρ : Nat → Nat} {A : Nat → Prop} (hfl : l.stackTraces = false) (hD : gD ρ A) {x1 : Int32} {x2 : Int32} {x3 : Int32} {x4 : Int32} {x5 : Int32} {u : gSt} {z : Int32 × gSt} (hM : M_Law_feed x1 x2 x3 x4 x5 u = some z) : gCtW l y_Law_feed method_3_code 8 [(0, 16, 19, 13)] 7 115 cy D ρ A [.ref (ρ 0), .int x1, .int x2, .int x3, .int x4, .int x5, .ref (ρ 66)] u z.1 z.2 := by
  refine g_metW (by decide) hD (Nat.le_of_ble_eq_true rfl) (fun p e s m below meth c ls C X2 hxt hl hP => ?_)
  have hx := C.1
  have hb := C.2.1
  have hS : va_S A s.heap s.heap [] := va_S.rf
  unfold M_Law_feed at hM
  have hl : lv_has ls 8 [(0, .ref (ρ 0)), (1, .int x1), (2, .int x2), (3, .int x3), (4, .int x4), (5, .int x5), (6, .ref (ρ 66))] := hl
  refine lv_aload hx hb d_Law_feed_0 (lv_at hl 6 rfl) ?_
  refine lv_iconst (v := (0 : Int32)) hx hb d_Law_feed_2 (by decide) ?_
  refine lv_aload_n hx hb d_Law_feed_3 rfl (lv_at hl 0 rfl) ?_
  refine lv_iload_n hx hb d_Law_feed_4 rfl (lv_at hl 1 rfl) ?_
  refine lv_iload_n hx hb d_Law_feed_5 rfl (lv_at hl 2 rfl) ?_
  refine lv_iload_n hx hb d_Law_feed_6 rfl (lv_at hl 3 rfl) ?_
  refine lv_iload hx hb d_Law_feed_7 (lv_at hl 4 rfl) ?_
  refine lv_iload hx hb d_Law_feed_9 (lv_at hl 5 rfl) ?_
  cases hE : E_Desk_feed x1 x2 x3 x4 x5 u with
  | some k =>
    rw [hE] at hM
    dsimp only at hM
    by_cases hk0 : k = 0
    · replace hM := gi_t hk0 hM
      subst hk0
      refine g_catch (As := [.int x1, .int x2, .int x3, .int x4, .int x5]) (rest := [.int (0 : Int32), .ref (ρ 66)]) C X2 hP hS (e_Desk_feed hfl C.2.2.2.2.2.2.2.2.1 hE) gi_Desk_feed (gWs_at 620 (by decide +kernel) (by decide +kernel)) rfl rfl (by decide) (by decide) (Nat.le_refl _) (Nat.le_refl _) hl.1 rfl (Nat.le_of_ble_eq_true rfl) d_Law_feed_11 (g_hnd1 C X2 hxt (by decide) (by decide) (by decide) (gWs_at 619 (by decide +kernel) (by decide +kernel)) (gFs_at 627 (by decide +kernel) (by decide +kernel))) (fun H x19 hP hS => ?_)
      refine lv_astore (lv' := [(7, .ref x19), (0, .ref (ρ 0)), (1, .int x1), (2, .int x2), (3, .int x3), (4, .int x4), (5, .int x5), (6, .ref (ρ 66))]) hx hb d_Law_feed_19 hl (by decide) rfl (fun ls hl => ?_)
      refine lv_iconst (v := (1 : Int32)) hx hb d_Law_feed_21 (by decide) ?_
      obtain rfl := Option.some.inj hM
      exact g_iretU C X2 hP hS (by decide) (by decide) d_Law_feed_22
    replace hM := gi_f hk0 hM
    cases hM
  | none =>
    rw [hE] at hM
    dsimp only at hM
    obtain ⟨q11, hq11, hM⟩ := gb_some hM
    refine g_backI (g_runV (As := [.int x1, .int x2, .int x3, .int x4, .int x5]) C hP (c_Desk_feed C.2.2.2.2.2.2.2.2.1 hq11) gi_Desk_feed gm_Law_7 rfl rfl (by decide) (by decide) hl.1 rfl (Nat.le_of_ble_eq_true rfl) d_Law_feed_11) hS (fun H locs hP hS => ?_)
    refine lv_i2l (v := q11.1.toInt64) hx hb d_Law_feed_14 rfl ?_
    obtain ⟨hi15, hM⟩ := gc_some hM
    obtain ⟨u15, e15, hM⟩ := gb_some hM
    refine g_last C hP hS rfl hi15 d_Law_feed_15 (fun H locs hP hS => ?_)
    rw [Option.some.inj e15] at hP
    refine lv_goto (tgt := 23) hx hb d_Law_feed_16 (by decide) ?_
    refine lv_iconst (v := (0 : Int32)) hx hb d_Law_feed_23 (by decide) ?_
    obtain rfl := Option.some.inj hM
    exact g_iretU C X2 hP hS (by decide) (by decide) d_Law_feed_24
end
section
def y_Law_trim : MethodName := ⟨"TermDeskLaw", "trim", "(LTermDesk;I[J)I"⟩
theorem d_Law_trim_0 : decode method_4_code 0 = .ok (.aload_n 2, 1) := by decide +kernel
theorem d_Law_trim_1 : decode method_4_code 1 = .ok (.iconst 0, 1) := by decide +kernel
theorem d_Law_trim_2 : decode method_4_code 2 = .ok (.aload_n 0, 1) := by decide +kernel
theorem d_Law_trim_3 : decode method_4_code 3 = .ok (.iload_n 1, 1) := by decide +kernel
theorem d_Law_trim_4 : decode method_4_code 4 = .ok (.invokevirtual 15, 3) := by decide +kernel
theorem d_Law_trim_7 : decode method_4_code 7 = .ok (.i2l, 1) := by decide +kernel
theorem d_Law_trim_8 : decode method_4_code 8 = .ok (.lastore, 1) := by decide +kernel
theorem d_Law_trim_9 : decode method_4_code 9 = .ok (.goto 6, 3) := by decide +kernel
theorem d_Law_trim_12 : decode method_4_code 12 = .ok (.astore_n 3, 1) := by decide +kernel
theorem d_Law_trim_13 : decode method_4_code 13 = .ok (.iconst 1, 1) := by decide +kernel
theorem d_Law_trim_14 : decode method_4_code 14 = .ok (.ireturn, 1) := by decide +kernel
theorem d_Law_trim_15 : decode method_4_code 15 = .ok (.iconst 0, 1) := by decide +kernel
theorem d_Law_trim_16 : decode method_4_code 16 = .ok (.ireturn, 1) := by decide +kernel
noncomputable def M_Law_trim (x1 : Int32) (u : gSt) : Option (Int32 × gSt) :=
  match E_Desk_trim x1 u with
  | some k => if k = 1 then (some ((1 : Int32), u)) else none
  | none => (M_Desk_trim x1 u).bind fun q4 =>
    gc (gIn (0 : Int32) (gLen 66)) <| (some (gsL q4.2 66 (gIx (0 : Int32)) q4.1.toInt64)).bind fun u8 =>
    some ((0 : Int32), u8)
set_option maxHeartbeats 4000000 in
set_option maxRecDepth 100000 in
theorem c_Law_trim {l : Launch} {cy : Nat → ClassId} {D : va_G} {ρ : Nat → Nat} {A : Nat → Prop} (hfl : l.stackTraces = false) (hD : gD ρ A) {x1 : Int32} {u : gSt} {z : Int32 × gSt} (hM : M_Law_trim x1 u = some z) : gCtW l y_Law_trim method_4_code 4 [(0, 9, 12, 19)] 7 111 cy D ρ A [.ref (ρ 0), .int x1, .ref (ρ 66)] u z.1 z.2 := by
  refine g_metW (by decide) hD (Nat.le_of_ble_eq_true rfl) (fun p e s m below meth c ls C X2 hxt hl hP => ?_)
  have hx := C.1
  have hb := C.2.1
  have hS : va_S A s.heap s.heap [] := va_S.rf
  unfold M_Law_trim at hM
  have hl : lv_has ls 4 [(0, .ref (ρ 0)), (1, .int x1), (2, .ref (ρ 66))] := hl
  refine lv_aload_n hx hb d_Law_trim_0 rfl (lv_at hl 2 rfl) ?_
  refine lv_iconst (v := (0 : Int32)) hx hb d_Law_trim_1 (by decide) ?_
  refine lv_aload_n hx hb d_Law_trim_2 rfl (lv_at hl 0 rfl) ?_
  refine lv_iload_n hx hb d_Law_trim_3 rfl (lv_at hl 1 rfl) ?_
  cases hE : E_Desk_trim x1 u with
  | some k =>
    rw [hE] at hM
    dsimp only at hM
    by_cases hk1 : k = 1
    · replace hM := gi_t hk1 hM
      subst hk1
      refine g_catch (As := [.int x1]) (rest := [.int (0 : Int32), .ref (ρ 66)]) C X2 hP hS (e_Desk_trim hfl C.2.2.2.2.2.2.2.2.1 hE) gi_Desk_trim (gWs_at 700 (by decide +kernel) (by decide +kernel)) rfl rfl (by decide) (by decide) (Nat.le_refl _) (Nat.le_refl _) hl.1 rfl (Nat.le_of_ble_eq_true rfl) d_Law_trim_4 (g_hnd1 C X2 hxt (by decide) (by decide) (by decide) (gWs_at 699 (by decide +kernel) (by decide +kernel)) (gFs_at 706 (by decide +kernel) (by decide +kernel))) (fun H x12 hP hS => ?_)
      refine lv_astore_n (lv' := [(3, .ref x12), (0, .ref (ρ 0)), (1, .int x1), (2, .ref (ρ 66))]) hx hb d_Law_trim_12 rfl hl (by decide) rfl (fun ls hl => ?_)
      refine lv_iconst (v := (1 : Int32)) hx hb d_Law_trim_13 (by decide) ?_
      obtain rfl := Option.some.inj hM
      exact g_iretU C X2 hP hS (by decide) (by decide) d_Law_trim_14
    replace hM := gi_f hk1 hM
    cases hM
  | none =>
    rw [hE] at hM
    dsimp only at hM
    obtain ⟨q4, hq4, hM⟩ := gb_some hM
    refine g_backI (g_runV (As := [.int x1]) C hP (c_Desk_trim C.2.2.2.2.2.2.2.2.1 hq4) gi_Desk_trim gm_Law_15 rfl rfl (by decide) (by decide) hl.1 rfl (Nat.le_of_ble_eq_true rfl) d_Law_trim_4) hS (fun H locs hP hS => ?_)
    refine lv_i2l (v := q4.1.toInt64) hx hb d_Law_trim_7 rfl ?_
    obtain ⟨hi8, hM⟩ := gc_some hM
    obtain ⟨u8, e8, hM⟩ := gb_some hM
    refine g_last C hP hS rfl hi8 d_Law_trim_8 (fun H locs hP hS => ?_)
    rw [Option.some.inj e8] at hP
    refine lv_goto (tgt := 15) hx hb d_Law_trim_9 (by decide) ?_
    refine lv_iconst (v := (0 : Int32)) hx hb d_Law_trim_15 (by decide) ?_
    obtain rfl := Option.some.inj hM
    exact g_iretU C X2 hP hS (by decide) (by decide) d_Law_trim_16
end
section
def y_Law_fault : MethodName := ⟨"TermDeskLaw", "fault", "(LTermDesk;I[J)I"⟩
theorem d_Law_fault_0 : decode method_5_code 0 = .ok (.aload_n 2, 1) := by decide +kernel
theorem d_Law_fault_1 : decode method_5_code 1 = .ok (.iconst 0, 1) := by decide +kernel
theorem d_Law_fault_2 : decode method_5_code 2 = .ok (.aload_n 0, 1) := by decide +kernel
theorem d_Law_fault_3 : decode method_5_code 3 = .ok (.iload_n 1, 1) := by decide +kernel
theorem d_Law_fault_4 : decode method_5_code 4 = .ok (.invokevirtual 21, 3) := by decide +kernel
theorem d_Law_fault_7 : decode method_5_code 7 = .ok (.i2l, 1) := by decide +kernel
theorem d_Law_fault_8 : decode method_5_code 8 = .ok (.lastore, 1) := by decide +kernel
theorem d_Law_fault_9 : decode method_5_code 9 = .ok (.goto 6, 3) := by decide +kernel
theorem d_Law_fault_12 : decode method_5_code 12 = .ok (.astore_n 3, 1) := by decide +kernel
theorem d_Law_fault_13 : decode method_5_code 13 = .ok (.iconst 1, 1) := by decide +kernel
theorem d_Law_fault_14 : decode method_5_code 14 = .ok (.ireturn, 1) := by decide +kernel
theorem d_Law_fault_15 : decode method_5_code 15 = .ok (.iconst 0, 1) := by decide +kernel
theorem d_Law_fault_16 : decode method_5_code 16 = .ok (.ireturn, 1) := by decide +kernel
noncomputable def M_Law_fault (x1 : Int32) (u : gSt) : Option (Int32 × gSt) :=
  match E_Desk_fault x1 u with
  | some k => if k = 1 then (some ((1 : Int32), u)) else none
  | none => (M_Desk_fault x1 u).bind fun q4 =>
    gc (gIn (0 : Int32) (gLen 66)) <| (some (gsL q4.2 66 (gIx (0 : Int32)) q4.1.toInt64)).bind fun u8 =>
    some ((0 : Int32), u8)
set_option maxHeartbeats 4000000 in
set_option maxRecDepth 100000 in
theorem c_Law_fault {l : Launch} {cy : Nat → ClassId} {D : va_G} {ρ : Nat → Nat} {A : Nat → Prop} (hfl : l.stackTraces = false) (hD : gD ρ A) {x1 : Int32} {u : gSt} {z : Int32 × gSt} (hM : M_Law_fault x1 u = some z) : gCtW l y_Law_fault method_5_code 4 [(0, 9, 12, 19)] 7 111 cy D ρ A [.ref (ρ 0), .int x1, .ref (ρ 66)] u z.1 z.2 := by
  refine g_metW (by decide) hD (Nat.le_of_ble_eq_true rfl) (fun p e s m below meth c ls C X2 hxt hl hP => ?_)
  have hx := C.1
  have hb := C.2.1
  have hS : va_S A s.heap s.heap [] := va_S.rf
  unfold M_Law_fault at hM
  have hl : lv_has ls 4 [(0, .ref (ρ 0)), (1, .int x1), (2, .ref (ρ 66))] := hl
  refine lv_aload_n hx hb d_Law_fault_0 rfl (lv_at hl 2 rfl) ?_
  refine lv_iconst (v := (0 : Int32)) hx hb d_Law_fault_1 (by decide) ?_
  refine lv_aload_n hx hb d_Law_fault_2 rfl (lv_at hl 0 rfl) ?_
  refine lv_iload_n hx hb d_Law_fault_3 rfl (lv_at hl 1 rfl) ?_
  cases hE : E_Desk_fault x1 u with
  | some k =>
    rw [hE] at hM
    dsimp only at hM
    by_cases hk1 : k = 1
    · replace hM := gi_t hk1 hM
      subst hk1
      refine g_catch (As := [.int x1]) (rest := [.int (0 : Int32), .ref (ρ 66)]) C X2 hP hS (e_Desk_fault hfl C.2.2.2.2.2.2.2.2.1 hE) gi_Desk_fault (gWs_at 723 (by decide +kernel) (by decide +kernel)) rfl rfl (by decide) (by decide) (Nat.le_refl _) (Nat.le_refl _) hl.1 rfl (Nat.le_of_ble_eq_true rfl) d_Law_fault_4 (g_hnd1 C X2 hxt (by decide) (by decide) (by decide) (gWs_at 699 (by decide +kernel) (by decide +kernel)) (gFs_at 706 (by decide +kernel) (by decide +kernel))) (fun H x12 hP hS => ?_)
      refine lv_astore_n (lv' := [(3, .ref x12), (0, .ref (ρ 0)), (1, .int x1), (2, .ref (ρ 66))]) hx hb d_Law_fault_12 rfl hl (by decide) rfl (fun ls hl => ?_)
      refine lv_iconst (v := (1 : Int32)) hx hb d_Law_fault_13 (by decide) ?_
      obtain rfl := Option.some.inj hM
      exact g_iretU C X2 hP hS (by decide) (by decide) d_Law_fault_14
    replace hM := gi_f hk1 hM
    cases hM
  | none =>
    rw [hE] at hM
    dsimp only at hM
    obtain ⟨q4, hq4, hM⟩ := gb_some hM
    refine g_backI (g_runV (As := [.int x1]) C hP (c_Desk_fault C.2.2.2.2.2.2.2.2.1 hq4) gi_Desk_fault gm_Law_21 rfl rfl (by decide) (by decide) hl.1 rfl (Nat.le_of_ble_eq_true rfl) d_Law_fault_4) hS (fun H locs hP hS => ?_)
    refine lv_i2l (v := q4.1.toInt64) hx hb d_Law_fault_7 rfl ?_
    obtain ⟨hi8, hM⟩ := gc_some hM
    obtain ⟨u8, e8, hM⟩ := gb_some hM
    refine g_last C hP hS rfl hi8 d_Law_fault_8 (fun H locs hP hS => ?_)
    rw [Option.some.inj e8] at hP
    refine lv_goto (tgt := 15) hx hb d_Law_fault_9 (by decide) ?_
    refine lv_iconst (v := (0 : Int32)) hx hb d_Law_fault_15 (by decide) ?_
    obtain rfl := Option.some.inj hM
    exact g_iretU C X2 hP hS (by decide) (by decide) d_Law_fault_16
end
section
def y_Law_about : MethodName := ⟨"TermDeskLaw", "about", "(LTermDesk;I[J)I"⟩
theorem d_Law_about_0 : decode method_6_code 0 = .ok (.aload_n 2, 1) := by decide +kernel
theorem d_Law_about_1 : decode method_6_code 1 = .ok (.iconst 0, 1) := by decide +kernel
theorem d_Law_about_2 : decode method_6_code 2 = .ok (.aload_n 0, 1) := by decide +kernel
theorem d_Law_about_3 : decode method_6_code 3 = .ok (.iload_n 1, 1) := by decide +kernel
theorem d_Law_about_4 : decode method_6_code 4 = .ok (.invokevirtual 24, 3) := by decide +kernel
theorem d_Law_about_7 : decode method_6_code 7 = .ok (.i2l, 1) := by decide +kernel
theorem d_Law_about_8 : decode method_6_code 8 = .ok (.lastore, 1) := by decide +kernel
theorem d_Law_about_9 : decode method_6_code 9 = .ok (.goto 6, 3) := by decide +kernel
theorem d_Law_about_12 : decode method_6_code 12 = .ok (.astore_n 3, 1) := by decide +kernel
theorem d_Law_about_13 : decode method_6_code 13 = .ok (.iconst 1, 1) := by decide +kernel
theorem d_Law_about_14 : decode method_6_code 14 = .ok (.ireturn, 1) := by decide +kernel
theorem d_Law_about_15 : decode method_6_code 15 = .ok (.iconst 0, 1) := by decide +kernel
theorem d_Law_about_16 : decode method_6_code 16 = .ok (.ireturn, 1) := by decide +kernel
noncomputable def M_Law_about (x1 : Int32) (u : gSt) : Option (Int32 × gSt) :=
  match E_Desk_about x1 u with
  | some k => if k = 1 then (some ((1 : Int32), u)) else none
  | none => (M_Desk_about x1 u).bind fun q4 =>
    gc (gIn (0 : Int32) (gLen 66)) <| (some (gsL q4.2 66 (gIx (0 : Int32)) q4.1.toInt64)).bind fun u8 =>
    some ((0 : Int32), u8)
set_option maxHeartbeats 4000000 in
set_option maxRecDepth 100000 in
theorem c_Law_about {l : Launch} {cy : Nat → ClassId} {D : va_G} {ρ : Nat → Nat} {A : Nat → Prop} (hfl : l.stackTraces = false) (hD : gD ρ A) {x1 : Int32} {u : gSt} {z : Int32 × gSt} (hM : M_Law_about x1 u = some z) : gCtW l y_Law_about method_6_code 4 [(0, 9, 12, 19)] 7 131 cy D ρ A [.ref (ρ 0), .int x1, .ref (ρ 66)] u z.1 z.2 := by
  refine g_metW (by decide) hD (Nat.le_of_ble_eq_true rfl) (fun p e s m below meth c ls C X2 hxt hl hP => ?_)
  have hx := C.1
  have hb := C.2.1
  have hS : va_S A s.heap s.heap [] := va_S.rf
  unfold M_Law_about at hM
  have hl : lv_has ls 4 [(0, .ref (ρ 0)), (1, .int x1), (2, .ref (ρ 66))] := hl
  refine lv_aload_n hx hb d_Law_about_0 rfl (lv_at hl 2 rfl) ?_
  refine lv_iconst (v := (0 : Int32)) hx hb d_Law_about_1 (by decide) ?_
  refine lv_aload_n hx hb d_Law_about_2 rfl (lv_at hl 0 rfl) ?_
  refine lv_iload_n hx hb d_Law_about_3 rfl (lv_at hl 1 rfl) ?_
  cases hE : E_Desk_about x1 u with
  | some k =>
    rw [hE] at hM
    dsimp only at hM
    by_cases hk1 : k = 1
    · replace hM := gi_t hk1 hM
      subst hk1
      refine g_catch (As := [.int x1]) (rest := [.int (0 : Int32), .ref (ρ 66)]) C X2 hP hS (e_Desk_about hfl C.2.2.2.2.2.2.2.2.1 hE) gi_Desk_about (gWs_at 731 (by decide +kernel) (by decide +kernel)) rfl rfl (by decide) (by decide) (Nat.le_refl _) (Nat.le_refl _) hl.1 rfl (Nat.le_of_ble_eq_true rfl) d_Law_about_4 (g_hnd1 C X2 hxt (by decide) (by decide) (by decide) (gWs_at 699 (by decide +kernel) (by decide +kernel)) (gFs_at 706 (by decide +kernel) (by decide +kernel))) (fun H x12 hP hS => ?_)
      refine lv_astore_n (lv' := [(3, .ref x12), (0, .ref (ρ 0)), (1, .int x1), (2, .ref (ρ 66))]) hx hb d_Law_about_12 rfl hl (by decide) rfl (fun ls hl => ?_)
      refine lv_iconst (v := (1 : Int32)) hx hb d_Law_about_13 (by decide) ?_
      obtain rfl := Option.some.inj hM
      exact g_iretU C X2 hP hS (by decide) (by decide) d_Law_about_14
    replace hM := gi_f hk1 hM
    cases hM
  | none =>
    rw [hE] at hM
    dsimp only at hM
    obtain ⟨q4, hq4, hM⟩ := gb_some hM
    refine g_backI (g_runV (As := [.int x1]) C hP (c_Desk_about C.2.2.2.2.2.2.2.2.1 hq4) gi_Desk_about gm_Law_24 rfl rfl (by decide) (by decide) hl.1 rfl (Nat.le_of_ble_eq_true rfl) d_Law_about_4) hS (fun H locs hP hS => ?_)
    refine lv_i2l (v := q4.1.toInt64) hx hb d_Law_about_7 rfl ?_
    obtain ⟨hi8, hM⟩ := gc_some hM
    obtain ⟨u8, e8, hM⟩ := gb_some hM
    refine g_last C hP hS rfl hi8 d_Law_about_8 (fun H locs hP hS => ?_)
    rw [Option.some.inj e8] at hP
    refine lv_goto (tgt := 15) hx hb d_Law_about_9 (by decide) ?_
    refine lv_iconst (v := (0 : Int32)) hx hb d_Law_about_15 (by decide) ?_
    obtain rfl := Option.some.inj hM
    exact g_iretU C X2 hP hS (by decide) (by decide) d_Law_about_16
end
section
def y_Law_term : MethodName := ⟨"TermDeskLaw", "term", "(LTermDesk;II[J)I"⟩
theorem d_Law_term_0 : decode method_7_code 0 = .ok (.aload_n 3, 1) := by decide +kernel
theorem d_Law_term_1 : decode method_7_code 1 = .ok (.iconst 0, 1) := by decide +kernel
theorem d_Law_term_2 : decode method_7_code 2 = .ok (.aload_n 0, 1) := by decide +kernel
theorem d_Law_term_3 : decode method_7_code 3 = .ok (.iload_n 1, 1) := by decide +kernel
theorem d_Law_term_4 : decode method_7_code 4 = .ok (.iload_n 2, 1) := by decide +kernel
theorem d_Law_term_5 : decode method_7_code 5 = .ok (.invokevirtual 27, 3) := by decide +kernel
theorem d_Law_term_8 : decode method_7_code 8 = .ok (.i2l, 1) := by decide +kernel
theorem d_Law_term_9 : decode method_7_code 9 = .ok (.lastore, 1) := by decide +kernel
theorem d_Law_term_10 : decode method_7_code 10 = .ok (.goto 11, 3) := by decide +kernel
theorem d_Law_term_13 : decode method_7_code 13 = .ok (.astore 4, 2) := by decide +kernel
theorem d_Law_term_15 : decode method_7_code 15 = .ok (.iconst 1, 1) := by decide +kernel
theorem d_Law_term_16 : decode method_7_code 16 = .ok (.ireturn, 1) := by decide +kernel
theorem d_Law_term_17 : decode method_7_code 17 = .ok (.astore 4, 2) := by decide +kernel
theorem d_Law_term_19 : decode method_7_code 19 = .ok (.iconst 2, 1) := by decide +kernel
theorem d_Law_term_20 : decode method_7_code 20 = .ok (.ireturn, 1) := by decide +kernel
theorem d_Law_term_21 : decode method_7_code 21 = .ok (.iconst 0, 1) := by decide +kernel
theorem d_Law_term_22 : decode method_7_code 22 = .ok (.ireturn, 1) := by decide +kernel
noncomputable def M_Law_term (x1 : Int32) (x2 : Int32) (u : gSt) : Option (Int32 × gSt) :=
  match E_Desk_term x1 x2 u with
  | some k => if k = 2 then (some ((1 : Int32), u)) else if k = 1 then (some ((2 : Int32), u)) else none
  | none => (M_Desk_term x1 x2 u).bind fun q5 =>
    gc (gIn (0 : Int32) (gLen 66)) <| (some (gsL q5.2 66 (gIx (0 : Int32)) q5.1.toInt64)).bind fun u9 =>
    some ((0 : Int32), u9)
set_option maxHeartbeats 4000000 in
set_option maxRecDepth 100000 in
theorem c_Law_term {l : Launch} {cy : Nat → ClassId} {D : va_G} {ρ : Nat → Nat} {A : Nat → Prop} (hfl : l.stackTraces = false) (hD : gD ρ A) {x1 : Int32} {x2 : Int32} {u : gSt} {z : Int32 × gSt} (hM : M_Law_term x1 x2 u = some z) : gCtW l y_Law_term method_7_code 5 [(0, 10, 13, 31), (0, 10, 17, 19)] 7 114 cy D ρ A [.ref (ρ 0), .int x1, .int x2, .ref (ρ 66)] u z.1 z.2 := by
  refine g_metW (by decide) hD (Nat.le_of_ble_eq_true rfl) (fun p e s m below meth c ls C X2 hxt hl hP => ?_)
  have hx := C.1
  have hb := C.2.1
  have hS : va_S A s.heap s.heap [] := va_S.rf
  unfold M_Law_term at hM
  have hl : lv_has ls 5 [(0, .ref (ρ 0)), (1, .int x1), (2, .int x2), (3, .ref (ρ 66))] := hl
  refine lv_aload_n hx hb d_Law_term_0 rfl (lv_at hl 3 rfl) ?_
  refine lv_iconst (v := (0 : Int32)) hx hb d_Law_term_1 (by decide) ?_
  refine lv_aload_n hx hb d_Law_term_2 rfl (lv_at hl 0 rfl) ?_
  refine lv_iload_n hx hb d_Law_term_3 rfl (lv_at hl 1 rfl) ?_
  refine lv_iload_n hx hb d_Law_term_4 rfl (lv_at hl 2 rfl) ?_
  cases hE : E_Desk_term x1 x2 u with
  | some k =>
    rw [hE] at hM
    dsimp only at hM
    by_cases hk2 : k = 2
    · replace hM := gi_t hk2 hM
      subst hk2
      refine g_catch (As := [.int x1, .int x2]) (rest := [.int (0 : Int32), .ref (ρ 66)]) C X2 hP hS (e_Desk_term hfl C.2.2.2.2.2.2.2.2.1 hE) gi_Desk_term (gWs_at 776 (by decide +kernel) (by decide +kernel)) rfl rfl (by decide) (by decide) (Nat.le_refl _) (Nat.le_refl _) hl.1 rfl (Nat.le_of_ble_eq_true rfl) d_Law_term_5 (g_hnd1 C X2 hxt (by decide) (by decide) (by decide) (gWs_at 775 (by decide +kernel) (by decide +kernel)) (gFs_at 783 (by decide +kernel) (by decide +kernel))) (fun H x13 hP hS => ?_)
      refine lv_astore (lv' := [(4, .ref x13), (0, .ref (ρ 0)), (1, .int x1), (2, .int x2), (3, .ref (ρ 66))]) hx hb d_Law_term_13 hl (by decide) rfl (fun ls hl => ?_)
      refine lv_iconst (v := (1 : Int32)) hx hb d_Law_term_15 (by decide) ?_
      obtain rfl := Option.some.inj hM
      exact g_iretU C X2 hP hS (by decide) (by decide) d_Law_term_16
    replace hM := gi_f hk2 hM
    by_cases hk1 : k = 1
    · replace hM := gi_t hk1 hM
      subst hk1
      refine g_catch (As := [.int x1, .int x2]) (rest := [.int (0 : Int32), .ref (ρ 66)]) C X2 hP hS (e_Desk_term hfl C.2.2.2.2.2.2.2.2.1 hE) gi_Desk_term (gWs_at 776 (by decide +kernel) (by decide +kernel)) rfl rfl (by decide) (by decide) (Nat.le_refl _) (Nat.le_refl _) hl.1 rfl (Nat.le_of_ble_eq_true rfl) d_Law_term_5 (g_hnd2 C X2 hxt (by decide) (by decide) (by decide) (by decide) (by decide) (by decide) (gWs_at 699 (by decide +kernel) (by decide +kernel)) (gWs_at 775 (by decide +kernel) (by decide +kernel)) (gFs_at 706 (by decide +kernel) (by decide +kernel))) (fun H x17 hP hS => ?_)
      refine lv_astore (lv' := [(4, .ref x17), (0, .ref (ρ 0)), (1, .int x1), (2, .int x2), (3, .ref (ρ 66))]) hx hb d_Law_term_17 hl (by decide) rfl (fun ls hl => ?_)
      refine lv_iconst (v := (2 : Int32)) hx hb d_Law_term_19 (by decide) ?_
      obtain rfl := Option.some.inj hM
      exact g_iretU C X2 hP hS (by decide) (by decide) d_Law_term_20
    replace hM := gi_f hk1 hM
    cases hM
  | none =>
    rw [hE] at hM
    dsimp only at hM
    obtain ⟨q5, hq5, hM⟩ := gb_some hM
    refine g_backI (g_runV (As := [.int x1, .int x2]) C hP (c_Desk_term C.2.2.2.2.2.2.2.2.1 hq5) gi_Desk_term gm_Law_27 rfl rfl (by decide) (by decide) hl.1 rfl (Nat.le_of_ble_eq_true rfl) d_Law_term_5) hS (fun H locs hP hS => ?_)
    refine lv_i2l (v := q5.1.toInt64) hx hb d_Law_term_8 rfl ?_
    obtain ⟨hi9, hM⟩ := gc_some hM
    obtain ⟨u9, e9, hM⟩ := gb_some hM
    refine g_last C hP hS rfl hi9 d_Law_term_9 (fun H locs hP hS => ?_)
    rw [Option.some.inj e9] at hP
    refine lv_goto (tgt := 21) hx hb d_Law_term_10 (by decide) ?_
    refine lv_iconst (v := (0 : Int32)) hx hb d_Law_term_21 (by decide) ?_
    obtain rfl := Option.some.inj hM
    exact g_iretU C X2 hP hS (by decide) (by decide) d_Law_term_22
end
section
def y_Law_letter : MethodName := ⟨"TermDeskLaw", "letter", "(LTermDesk;IZI[J)I"⟩
theorem d_Law_letter_0 : decode method_8_code 0 = .ok (.aload 4, 2) := by decide +kernel
theorem d_Law_letter_2 : decode method_8_code 2 = .ok (.iconst 0, 1) := by decide +kernel
theorem d_Law_letter_3 : decode method_8_code 3 = .ok (.aload_n 0, 1) := by decide +kernel
theorem d_Law_letter_4 : decode method_8_code 4 = .ok (.iload_n 1, 1) := by decide +kernel
theorem d_Law_letter_5 : decode method_8_code 5 = .ok (.iload_n 2, 1) := by decide +kernel
theorem d_Law_letter_6 : decode method_8_code 6 = .ok (.iload_n 3, 1) := by decide +kernel
theorem d_Law_letter_7 : decode method_8_code 7 = .ok (.invokevirtual 33, 3) := by decide +kernel
theorem d_Law_letter_10 : decode method_8_code 10 = .ok (.i2l, 1) := by decide +kernel
theorem d_Law_letter_11 : decode method_8_code 11 = .ok (.lastore, 1) := by decide +kernel
theorem d_Law_letter_12 : decode method_8_code 12 = .ok (.goto 7, 3) := by decide +kernel
theorem d_Law_letter_15 : decode method_8_code 15 = .ok (.astore 5, 2) := by decide +kernel
theorem d_Law_letter_17 : decode method_8_code 17 = .ok (.iconst 1, 1) := by decide +kernel
theorem d_Law_letter_18 : decode method_8_code 18 = .ok (.ireturn, 1) := by decide +kernel
theorem d_Law_letter_19 : decode method_8_code 19 = .ok (.iconst 0, 1) := by decide +kernel
theorem d_Law_letter_20 : decode method_8_code 20 = .ok (.ireturn, 1) := by decide +kernel
noncomputable def M_Law_letter (x1 : Int32) (x2 : Int32) (x3 : Int32) (u : gSt) : Option (Int32 × gSt) :=
  match E_Desk_letter x1 x2 x3 u with
  | some k => if k = 2 then (some ((1 : Int32), u)) else none
  | none => (M_Desk_letter x1 x2 x3 u).bind fun q7 =>
    gc (gIn (0 : Int32) (gLen 66)) <| (some (gsL q7.2 66 (gIx (0 : Int32)) q7.1.toInt64)).bind fun u11 =>
    some ((0 : Int32), u11)
set_option maxHeartbeats 4000000 in
set_option maxRecDepth 100000 in
theorem c_Law_letter {l : Launch} {cy : Nat → ClassId} {D : va_G} {ρ : Nat → Nat} {A : Nat → Prop} (hfl : l.stackTraces = false) (hD : gD ρ A) {x1 : Int32} {x2 : Int32} {x3 : Int32} {u : gSt} {z : Int32 × gSt} (hM : M_Law_letter x1 x2 x3 u = some z) : gCtW l y_Law_letter method_8_code 6 [(0, 12, 15, 31)] 7 113 cy D ρ A [.ref (ρ 0), .int x1, .int x2, .int x3, .ref (ρ 66)] u z.1 z.2 := by
  refine g_metW (by decide) hD (Nat.le_of_ble_eq_true rfl) (fun p e s m below meth c ls C X2 hxt hl hP => ?_)
  have hx := C.1
  have hb := C.2.1
  have hS : va_S A s.heap s.heap [] := va_S.rf
  unfold M_Law_letter at hM
  have hl : lv_has ls 6 [(0, .ref (ρ 0)), (1, .int x1), (2, .int x2), (3, .int x3), (4, .ref (ρ 66))] := hl
  refine lv_aload hx hb d_Law_letter_0 (lv_at hl 4 rfl) ?_
  refine lv_iconst (v := (0 : Int32)) hx hb d_Law_letter_2 (by decide) ?_
  refine lv_aload_n hx hb d_Law_letter_3 rfl (lv_at hl 0 rfl) ?_
  refine lv_iload_n hx hb d_Law_letter_4 rfl (lv_at hl 1 rfl) ?_
  refine lv_iload_n hx hb d_Law_letter_5 rfl (lv_at hl 2 rfl) ?_
  refine lv_iload_n hx hb d_Law_letter_6 rfl (lv_at hl 3 rfl) ?_
  cases hE : E_Desk_letter x1 x2 x3 u with
  | some k =>
    rw [hE] at hM
    dsimp only at hM
    by_cases hk2 : k = 2
    · replace hM := gi_t hk2 hM
      subst hk2
      refine g_catch (As := [.int x1, .int x2, .int x3]) (rest := [.int (0 : Int32), .ref (ρ 66)]) C X2 hP hS (e_Desk_letter hfl C.2.2.2.2.2.2.2.2.1 hE) gi_Desk_letter (gWs_at 820 (by decide +kernel) (by decide +kernel)) rfl rfl (by decide) (by decide) (Nat.le_refl _) (Nat.le_refl _) hl.1 rfl (Nat.le_of_ble_eq_true rfl) d_Law_letter_7 (g_hnd1 C X2 hxt (by decide) (by decide) (by decide) (gWs_at 775 (by decide +kernel) (by decide +kernel)) (gFs_at 783 (by decide +kernel) (by decide +kernel))) (fun H x15 hP hS => ?_)
      refine lv_astore (lv' := [(5, .ref x15), (0, .ref (ρ 0)), (1, .int x1), (2, .int x2), (3, .int x3), (4, .ref (ρ 66))]) hx hb d_Law_letter_15 hl (by decide) rfl (fun ls hl => ?_)
      refine lv_iconst (v := (1 : Int32)) hx hb d_Law_letter_17 (by decide) ?_
      obtain rfl := Option.some.inj hM
      exact g_iretU C X2 hP hS (by decide) (by decide) d_Law_letter_18
    replace hM := gi_f hk2 hM
    cases hM
  | none =>
    rw [hE] at hM
    dsimp only at hM
    obtain ⟨q7, hq7, hM⟩ := gb_some hM
    refine g_backI (g_runV (As := [.int x1, .int x2, .int x3]) C hP (c_Desk_letter C.2.2.2.2.2.2.2.2.1 hq7) gi_Desk_letter gm_Law_33 rfl rfl (by decide) (by decide) hl.1 rfl (Nat.le_of_ble_eq_true rfl) d_Law_letter_7) hS (fun H locs hP hS => ?_)
    refine lv_i2l (v := q7.1.toInt64) hx hb d_Law_letter_10 rfl ?_
    obtain ⟨hi11, hM⟩ := gc_some hM
    obtain ⟨u11, e11, hM⟩ := gb_some hM
    refine g_last C hP hS rfl hi11 d_Law_letter_11 (fun H locs hP hS => ?_)
    rw [Option.some.inj e11] at hP
    refine lv_goto (tgt := 19) hx hb d_Law_letter_12 (by decide) ?_
    refine lv_iconst (v := (0 : Int32)) hx hb d_Law_letter_19 (by decide) ?_
    obtain rfl := Option.some.inj hM
    exact g_iretU C X2 hP hS (by decide) (by decide) d_Law_letter_20
end
section
def y_Law_isAbove : MethodName := ⟨"TermDeskLaw", "isAbove", "(LTermDesk;II[J)I"⟩
theorem d_Law_isAbove_0 : decode method_9_code 0 = .ok (.aload_n 3, 1) := by decide +kernel
theorem d_Law_isAbove_1 : decode method_9_code 1 = .ok (.iconst 0, 1) := by decide +kernel
theorem d_Law_isAbove_2 : decode method_9_code 2 = .ok (.aload_n 0, 1) := by decide +kernel
theorem d_Law_isAbove_3 : decode method_9_code 3 = .ok (.iload_n 1, 1) := by decide +kernel
theorem d_Law_isAbove_4 : decode method_9_code 4 = .ok (.iload_n 2, 1) := by decide +kernel
theorem d_Law_isAbove_5 : decode method_9_code 5 = .ok (.invokevirtual 37, 3) := by decide +kernel
theorem d_Law_isAbove_8 : decode method_9_code 8 = .ok (.ifCond .eq 7, 3) := by decide +kernel
theorem d_Law_isAbove_11 : decode method_9_code 11 = .ok (.lconst 1, 1) := by decide +kernel
theorem d_Law_isAbove_12 : decode method_9_code 12 = .ok (.goto 4, 3) := by decide +kernel
theorem d_Law_isAbove_15 : decode method_9_code 15 = .ok (.lconst 0, 1) := by decide +kernel
theorem d_Law_isAbove_16 : decode method_9_code 16 = .ok (.lastore, 1) := by decide +kernel
theorem d_Law_isAbove_17 : decode method_9_code 17 = .ok (.goto 7, 3) := by decide +kernel
theorem d_Law_isAbove_20 : decode method_9_code 20 = .ok (.astore 4, 2) := by decide +kernel
theorem d_Law_isAbove_22 : decode method_9_code 22 = .ok (.iconst 1, 1) := by decide +kernel
theorem d_Law_isAbove_23 : decode method_9_code 23 = .ok (.ireturn, 1) := by decide +kernel
theorem d_Law_isAbove_24 : decode method_9_code 24 = .ok (.iconst 0, 1) := by decide +kernel
theorem d_Law_isAbove_25 : decode method_9_code 25 = .ok (.ireturn, 1) := by decide +kernel
noncomputable def M_Law_isAbove (x1 : Int32) (x2 : Int32) (u : gSt) : Option (Int32 × gSt) :=
  match E_Desk_isAbove x1 x2 u with
  | some k => if k = 2 then (some ((1 : Int32), u)) else none
  | none => (M_Desk_isAbove x1 x2 u).bind fun q5 =>
    if q5.1 = (0 : Int32) then
      (gc (gIn (0 : Int32) (gLen 66)) <| (some (gsL q5.2 66 (gIx (0 : Int32)) (0 : Int64))).bind fun u16 =>
      some ((0 : Int32), u16))
    else
      (gc (gIn (0 : Int32) (gLen 66)) <| (some (gsL q5.2 66 (gIx (0 : Int32)) (1 : Int64))).bind fun u16 =>
      some ((0 : Int32), u16))
set_option maxHeartbeats 4000000 in
set_option maxRecDepth 100000 in
theorem c_Law_isAbove {l : Launch} {cy : Nat → ClassId} {D : va_G} {ρ : Nat → Nat} {A : Nat → Prop} (hfl : l.stackTraces = false) (hD : gD ρ A) {x1 : Int32} {x2 : Int32} {u : gSt} {z : Int32 × gSt} (hM : M_Law_isAbove x1 x2 u = some z) : gCtW l y_Law_isAbove method_9_code 5 [(0, 17, 20, 31)] 7 112 cy D ρ A [.ref (ρ 0), .int x1, .int x2, .ref (ρ 66)] u z.1 z.2 := by
  refine g_metW (by decide) hD (Nat.le_of_ble_eq_true rfl) (fun p e s m below meth c ls C X2 hxt hl hP => ?_)
  have hx := C.1
  have hb := C.2.1
  have hS : va_S A s.heap s.heap [] := va_S.rf
  unfold M_Law_isAbove at hM
  have hl : lv_has ls 5 [(0, .ref (ρ 0)), (1, .int x1), (2, .int x2), (3, .ref (ρ 66))] := hl
  refine lv_aload_n hx hb d_Law_isAbove_0 rfl (lv_at hl 3 rfl) ?_
  refine lv_iconst (v := (0 : Int32)) hx hb d_Law_isAbove_1 (by decide) ?_
  refine lv_aload_n hx hb d_Law_isAbove_2 rfl (lv_at hl 0 rfl) ?_
  refine lv_iload_n hx hb d_Law_isAbove_3 rfl (lv_at hl 1 rfl) ?_
  refine lv_iload_n hx hb d_Law_isAbove_4 rfl (lv_at hl 2 rfl) ?_
  cases hE : E_Desk_isAbove x1 x2 u with
  | some k =>
    rw [hE] at hM
    dsimp only at hM
    by_cases hk2 : k = 2
    · replace hM := gi_t hk2 hM
      subst hk2
      refine g_catch (As := [.int x1, .int x2]) (rest := [.int (0 : Int32), .ref (ρ 66)]) C X2 hP hS (e_Desk_isAbove hfl C.2.2.2.2.2.2.2.2.1 hE) gi_Desk_isAbove (gWs_at 840 (by decide +kernel) (by decide +kernel)) rfl rfl (by decide) (by decide) (Nat.le_refl _) (Nat.le_refl _) hl.1 rfl (Nat.le_of_ble_eq_true rfl) d_Law_isAbove_5 (g_hnd1 C X2 hxt (by decide) (by decide) (by decide) (gWs_at 775 (by decide +kernel) (by decide +kernel)) (gFs_at 783 (by decide +kernel) (by decide +kernel))) (fun H x20 hP hS => ?_)
      refine lv_astore (lv' := [(4, .ref x20), (0, .ref (ρ 0)), (1, .int x1), (2, .int x2), (3, .ref (ρ 66))]) hx hb d_Law_isAbove_20 hl (by decide) rfl (fun ls hl => ?_)
      refine lv_iconst (v := (1 : Int32)) hx hb d_Law_isAbove_22 (by decide) ?_
      obtain rfl := Option.some.inj hM
      exact g_iretU C X2 hP hS (by decide) (by decide) d_Law_isAbove_23
    replace hM := gi_f hk2 hM
    cases hM
  | none =>
    rw [hE] at hM
    dsimp only at hM
    obtain ⟨q5, hq5, hM⟩ := gb_some hM
    refine g_backI (g_runV (As := [.int x1, .int x2]) C hP (c_Desk_isAbove C.2.2.2.2.2.2.2.2.1 hq5) gi_Desk_isAbove gm_Law_37 rfl rfl (by decide) (by decide) hl.1 rfl (Nat.le_of_ble_eq_true rfl) d_Law_isAbove_5) hS (fun H locs hP hS => ?_)
    refine lv_if_eq (tgt := 15) hx hb d_Law_isAbove_8 (by decide) (fun hc8 => ?_) (fun hc8 => ?_)
    · replace hM := gi_t hc8 hM
      refine lv_lconst (v := 0) hx hb d_Law_isAbove_15 (by decide) ?_
      obtain ⟨hi16, hM⟩ := gc_some hM
      obtain ⟨u16, e16, hM⟩ := gb_some hM
      refine g_last C hP hS rfl hi16 d_Law_isAbove_16 (fun H locs hP hS => ?_)
      rw [Option.some.inj e16] at hP
      refine lv_goto (tgt := 24) hx hb d_Law_isAbove_17 (by decide) ?_
      refine lv_iconst (v := (0 : Int32)) hx hb d_Law_isAbove_24 (by decide) ?_
      obtain rfl := Option.some.inj hM
      exact g_iretU C X2 hP hS (by decide) (by decide) d_Law_isAbove_25
    · replace hM := gi_f hc8 hM
      refine lv_lconst (v := 1) hx hb d_Law_isAbove_11 (by decide) ?_
      refine lv_goto (tgt := 16) hx hb d_Law_isAbove_12 (by decide) ?_
      obtain ⟨hi16, hM⟩ := gc_some hM
      obtain ⟨u16, e16, hM⟩ := gb_some hM
      refine g_last C hP hS rfl hi16 d_Law_isAbove_16 (fun H locs hP hS => ?_)
      rw [Option.some.inj e16] at hP
      refine lv_goto (tgt := 24) hx hb d_Law_isAbove_17 (by decide) ?_
      refine lv_iconst (v := (0 : Int32)) hx hb d_Law_isAbove_24 (by decide) ?_
      obtain rfl := Option.some.inj hM
      exact g_iretU C X2 hP hS (by decide) (by decide) d_Law_isAbove_25
end
section
def y_Law_isAt : MethodName := ⟨"TermDeskLaw", "isAt", "(LTermDesk;II[J)I"⟩
theorem d_Law_isAt_0 : decode method_10_code 0 = .ok (.aload_n 3, 1) := by decide +kernel
theorem d_Law_isAt_1 : decode method_10_code 1 = .ok (.iconst 0, 1) := by decide +kernel
theorem d_Law_isAt_2 : decode method_10_code 2 = .ok (.aload_n 0, 1) := by decide +kernel
theorem d_Law_isAt_3 : decode method_10_code 3 = .ok (.iload_n 1, 1) := by decide +kernel
theorem d_Law_isAt_4 : decode method_10_code 4 = .ok (.iload_n 2, 1) := by decide +kernel
theorem d_Law_isAt_5 : decode method_10_code 5 = .ok (.invokevirtual 41, 3) := by decide +kernel
theorem d_Law_isAt_8 : decode method_10_code 8 = .ok (.ifCond .eq 7, 3) := by decide +kernel
theorem d_Law_isAt_11 : decode method_10_code 11 = .ok (.lconst 1, 1) := by decide +kernel
theorem d_Law_isAt_12 : decode method_10_code 12 = .ok (.goto 4, 3) := by decide +kernel
theorem d_Law_isAt_15 : decode method_10_code 15 = .ok (.lconst 0, 1) := by decide +kernel
theorem d_Law_isAt_16 : decode method_10_code 16 = .ok (.lastore, 1) := by decide +kernel
theorem d_Law_isAt_17 : decode method_10_code 17 = .ok (.goto 7, 3) := by decide +kernel
theorem d_Law_isAt_20 : decode method_10_code 20 = .ok (.astore 4, 2) := by decide +kernel
theorem d_Law_isAt_22 : decode method_10_code 22 = .ok (.iconst 1, 1) := by decide +kernel
theorem d_Law_isAt_23 : decode method_10_code 23 = .ok (.ireturn, 1) := by decide +kernel
theorem d_Law_isAt_24 : decode method_10_code 24 = .ok (.iconst 0, 1) := by decide +kernel
theorem d_Law_isAt_25 : decode method_10_code 25 = .ok (.ireturn, 1) := by decide +kernel
noncomputable def M_Law_isAt (x1 : Int32) (x2 : Int32) (u : gSt) : Option (Int32 × gSt) :=
  match E_Desk_isAt x1 x2 u with
  | some k => if k = 2 then (some ((1 : Int32), u)) else none
  | none => (M_Desk_isAt x1 x2 u).bind fun q5 =>
    if q5.1 = (0 : Int32) then
      (gc (gIn (0 : Int32) (gLen 66)) <| (some (gsL q5.2 66 (gIx (0 : Int32)) (0 : Int64))).bind fun u16 =>
      some ((0 : Int32), u16))
    else
      (gc (gIn (0 : Int32) (gLen 66)) <| (some (gsL q5.2 66 (gIx (0 : Int32)) (1 : Int64))).bind fun u16 =>
      some ((0 : Int32), u16))
set_option maxHeartbeats 4000000 in
set_option maxRecDepth 100000 in
theorem c_Law_isAt {l : Launch} {cy : Nat → ClassId} {D : va_G} {ρ : Nat → Nat} {A : Nat → Prop} (hfl : l.stackTraces = false) (hD : gD ρ A) {x1 : Int32} {x2 : Int32} {u : gSt} {z : Int32 × gSt} (hM : M_Law_isAt x1 x2 u = some z) : gCtW l y_Law_isAt method_10_code 5 [(0, 17, 20, 31)] 7 112 cy D ρ A [.ref (ρ 0), .int x1, .int x2, .ref (ρ 66)] u z.1 z.2 := by
  refine g_metW (by decide) hD (Nat.le_of_ble_eq_true rfl) (fun p e s m below meth c ls C X2 hxt hl hP => ?_)
  have hx := C.1
  have hb := C.2.1
  have hS : va_S A s.heap s.heap [] := va_S.rf
  unfold M_Law_isAt at hM
  have hl : lv_has ls 5 [(0, .ref (ρ 0)), (1, .int x1), (2, .int x2), (3, .ref (ρ 66))] := hl
  refine lv_aload_n hx hb d_Law_isAt_0 rfl (lv_at hl 3 rfl) ?_
  refine lv_iconst (v := (0 : Int32)) hx hb d_Law_isAt_1 (by decide) ?_
  refine lv_aload_n hx hb d_Law_isAt_2 rfl (lv_at hl 0 rfl) ?_
  refine lv_iload_n hx hb d_Law_isAt_3 rfl (lv_at hl 1 rfl) ?_
  refine lv_iload_n hx hb d_Law_isAt_4 rfl (lv_at hl 2 rfl) ?_
  cases hE : E_Desk_isAt x1 x2 u with
  | some k =>
    rw [hE] at hM
    dsimp only at hM
    by_cases hk2 : k = 2
    · replace hM := gi_t hk2 hM
      subst hk2
      refine g_catch (As := [.int x1, .int x2]) (rest := [.int (0 : Int32), .ref (ρ 66)]) C X2 hP hS (e_Desk_isAt hfl C.2.2.2.2.2.2.2.2.1 hE) gi_Desk_isAt (gWs_at 848 (by decide +kernel) (by decide +kernel)) rfl rfl (by decide) (by decide) (Nat.le_refl _) (Nat.le_refl _) hl.1 rfl (Nat.le_of_ble_eq_true rfl) d_Law_isAt_5 (g_hnd1 C X2 hxt (by decide) (by decide) (by decide) (gWs_at 775 (by decide +kernel) (by decide +kernel)) (gFs_at 783 (by decide +kernel) (by decide +kernel))) (fun H x20 hP hS => ?_)
      refine lv_astore (lv' := [(4, .ref x20), (0, .ref (ρ 0)), (1, .int x1), (2, .int x2), (3, .ref (ρ 66))]) hx hb d_Law_isAt_20 hl (by decide) rfl (fun ls hl => ?_)
      refine lv_iconst (v := (1 : Int32)) hx hb d_Law_isAt_22 (by decide) ?_
      obtain rfl := Option.some.inj hM
      exact g_iretU C X2 hP hS (by decide) (by decide) d_Law_isAt_23
    replace hM := gi_f hk2 hM
    cases hM
  | none =>
    rw [hE] at hM
    dsimp only at hM
    obtain ⟨q5, hq5, hM⟩ := gb_some hM
    refine g_backI (g_runV (As := [.int x1, .int x2]) C hP (c_Desk_isAt C.2.2.2.2.2.2.2.2.1 hq5) gi_Desk_isAt gm_Law_41 rfl rfl (by decide) (by decide) hl.1 rfl (Nat.le_of_ble_eq_true rfl) d_Law_isAt_5) hS (fun H locs hP hS => ?_)
    refine lv_if_eq (tgt := 15) hx hb d_Law_isAt_8 (by decide) (fun hc8 => ?_) (fun hc8 => ?_)
    · replace hM := gi_t hc8 hM
      refine lv_lconst (v := 0) hx hb d_Law_isAt_15 (by decide) ?_
      obtain ⟨hi16, hM⟩ := gc_some hM
      obtain ⟨u16, e16, hM⟩ := gb_some hM
      refine g_last C hP hS rfl hi16 d_Law_isAt_16 (fun H locs hP hS => ?_)
      rw [Option.some.inj e16] at hP
      refine lv_goto (tgt := 24) hx hb d_Law_isAt_17 (by decide) ?_
      refine lv_iconst (v := (0 : Int32)) hx hb d_Law_isAt_24 (by decide) ?_
      obtain rfl := Option.some.inj hM
      exact g_iretU C X2 hP hS (by decide) (by decide) d_Law_isAt_25
    · replace hM := gi_f hc8 hM
      refine lv_lconst (v := 1) hx hb d_Law_isAt_11 (by decide) ?_
      refine lv_goto (tgt := 16) hx hb d_Law_isAt_12 (by decide) ?_
      obtain ⟨hi16, hM⟩ := gc_some hM
      obtain ⟨u16, e16, hM⟩ := gb_some hM
      refine g_last C hP hS rfl hi16 d_Law_isAt_16 (fun H locs hP hS => ?_)
      rw [Option.some.inj e16] at hP
      refine lv_goto (tgt := 24) hx hb d_Law_isAt_17 (by decide) ?_
      refine lv_iconst (v := (0 : Int32)) hx hb d_Law_isAt_24 (by decide) ?_
      obtain rfl := Option.some.inj hM
      exact g_iretU C X2 hP hS (by decide) (by decide) d_Law_isAt_25
end
section
def y_Law_report : MethodName := ⟨"TermDeskLaw", "report", "(LTermDesk;III[J)I"⟩
theorem d_Law_report_0 : decode method_11_code 0 = .ok (.aload 4, 2) := by decide +kernel
theorem d_Law_report_2 : decode method_11_code 2 = .ok (.iconst 0, 1) := by decide +kernel
theorem d_Law_report_3 : decode method_11_code 3 = .ok (.aload_n 0, 1) := by decide +kernel
theorem d_Law_report_4 : decode method_11_code 4 = .ok (.iload_n 1, 1) := by decide +kernel
theorem d_Law_report_5 : decode method_11_code 5 = .ok (.iload_n 2, 1) := by decide +kernel
theorem d_Law_report_6 : decode method_11_code 6 = .ok (.iload_n 3, 1) := by decide +kernel
theorem d_Law_report_7 : decode method_11_code 7 = .ok (.invokevirtual 44, 3) := by decide +kernel
theorem d_Law_report_10 : decode method_11_code 10 = .ok (.i2l, 1) := by decide +kernel
theorem d_Law_report_11 : decode method_11_code 11 = .ok (.lastore, 1) := by decide +kernel
theorem d_Law_report_12 : decode method_11_code 12 = .ok (.goto 7, 3) := by decide +kernel
theorem d_Law_report_15 : decode method_11_code 15 = .ok (.astore 5, 2) := by decide +kernel
theorem d_Law_report_17 : decode method_11_code 17 = .ok (.iconst 1, 1) := by decide +kernel
theorem d_Law_report_18 : decode method_11_code 18 = .ok (.ireturn, 1) := by decide +kernel
theorem d_Law_report_19 : decode method_11_code 19 = .ok (.iconst 0, 1) := by decide +kernel
theorem d_Law_report_20 : decode method_11_code 20 = .ok (.ireturn, 1) := by decide +kernel
noncomputable def M_Law_report (x1 : Int32) (x2 : Int32) (x3 : Int32) (u : gSt) : Option (Int32 × gSt) :=
  match E_Desk_report x1 x2 x3 u with
  | some k => if k = 1 then (some ((1 : Int32), u)) else none
  | none => (M_Desk_report x1 x2 x3 u).bind fun q7 =>
    gc (gIn (0 : Int32) (gLen 66)) <| (some (gsL q7.2 66 (gIx (0 : Int32)) q7.1.toInt64)).bind fun u11 =>
    some ((0 : Int32), u11)
set_option maxHeartbeats 4000000 in
set_option maxRecDepth 100000 in
theorem c_Law_report {l : Launch} {cy : Nat → ClassId} {D : va_G} {ρ : Nat → Nat} {A : Nat → Prop} (hfl : l.stackTraces = false) (hD : gD ρ A) {x1 : Int32} {x2 : Int32} {x3 : Int32} {u : gSt} {z : Int32 × gSt} (hM : M_Law_report x1 x2 x3 u = some z) : gCtW l y_Law_report method_11_code 6 [(0, 12, 15, 19)] 7 178 cy D ρ A [.ref (ρ 0), .int x1, .int x2, .int x3, .ref (ρ 66)] u z.1 z.2 := by
  refine g_metW (by decide) hD (Nat.le_of_ble_eq_true rfl) (fun p e s m below meth c ls C X2 hxt hl hP => ?_)
  have hx := C.1
  have hb := C.2.1
  have hS : va_S A s.heap s.heap [] := va_S.rf
  unfold M_Law_report at hM
  have hl : lv_has ls 6 [(0, .ref (ρ 0)), (1, .int x1), (2, .int x2), (3, .int x3), (4, .ref (ρ 66))] := hl
  refine lv_aload hx hb d_Law_report_0 (lv_at hl 4 rfl) ?_
  refine lv_iconst (v := (0 : Int32)) hx hb d_Law_report_2 (by decide) ?_
  refine lv_aload_n hx hb d_Law_report_3 rfl (lv_at hl 0 rfl) ?_
  refine lv_iload_n hx hb d_Law_report_4 rfl (lv_at hl 1 rfl) ?_
  refine lv_iload_n hx hb d_Law_report_5 rfl (lv_at hl 2 rfl) ?_
  refine lv_iload_n hx hb d_Law_report_6 rfl (lv_at hl 3 rfl) ?_
  cases hE : E_Desk_report x1 x2 x3 u with
  | some k =>
    rw [hE] at hM
    dsimp only at hM
    by_cases hk1 : k = 1
    · replace hM := gi_t hk1 hM
      subst hk1
      refine g_catch (As := [.int x1, .int x2, .int x3]) (rest := [.int (0 : Int32), .ref (ρ 66)]) C X2 hP hS (e_Desk_report hfl C.2.2.2.2.2.2.2.2.1 hE) gi_Desk_report (gWs_at 856 (by decide +kernel) (by decide +kernel)) rfl rfl (by decide) (by decide) (Nat.le_refl _) (Nat.le_refl _) hl.1 rfl (Nat.le_of_ble_eq_true rfl) d_Law_report_7 (g_hnd1 C X2 hxt (by decide) (by decide) (by decide) (gWs_at 699 (by decide +kernel) (by decide +kernel)) (gFs_at 706 (by decide +kernel) (by decide +kernel))) (fun H x15 hP hS => ?_)
      refine lv_astore (lv' := [(5, .ref x15), (0, .ref (ρ 0)), (1, .int x1), (2, .int x2), (3, .int x3), (4, .ref (ρ 66))]) hx hb d_Law_report_15 hl (by decide) rfl (fun ls hl => ?_)
      refine lv_iconst (v := (1 : Int32)) hx hb d_Law_report_17 (by decide) ?_
      obtain rfl := Option.some.inj hM
      exact g_iretU C X2 hP hS (by decide) (by decide) d_Law_report_18
    replace hM := gi_f hk1 hM
    cases hM
  | none =>
    rw [hE] at hM
    dsimp only at hM
    obtain ⟨q7, hq7, hM⟩ := gb_some hM
    refine g_backI (g_runV (As := [.int x1, .int x2, .int x3]) C hP (c_Desk_report C.2.2.2.2.2.2.2.2.1 hq7) gi_Desk_report gm_Law_44 rfl rfl (by decide) (by decide) hl.1 rfl (Nat.le_of_ble_eq_true rfl) d_Law_report_7) hS (fun H locs hP hS => ?_)
    refine lv_i2l (v := q7.1.toInt64) hx hb d_Law_report_10 rfl ?_
    obtain ⟨hi11, hM⟩ := gc_some hM
    obtain ⟨u11, e11, hM⟩ := gb_some hM
    refine g_last C hP hS rfl hi11 d_Law_report_11 (fun H locs hP hS => ?_)
    rw [Option.some.inj e11] at hP
    refine lv_goto (tgt := 19) hx hb d_Law_report_12 (by decide) ?_
    refine lv_iconst (v := (0 : Int32)) hx hb d_Law_report_19 (by decide) ?_
    obtain rfl := Option.some.inj hM
    exact g_iretU C X2 hP hS (by decide) (by decide) d_Law_report_20
end
section
def y_Law_row : MethodName := ⟨"TermDeskLaw", "row", "(LTermDesk;II[J)I"⟩
theorem d_Law_row_0 : decode method_12_code 0 = .ok (.aload_n 3, 1) := by decide +kernel
theorem d_Law_row_1 : decode method_12_code 1 = .ok (.iconst 0, 1) := by decide +kernel
theorem d_Law_row_2 : decode method_12_code 2 = .ok (.aload_n 0, 1) := by decide +kernel
theorem d_Law_row_3 : decode method_12_code 3 = .ok (.iload_n 1, 1) := by decide +kernel
theorem d_Law_row_4 : decode method_12_code 4 = .ok (.iload_n 2, 1) := by decide +kernel
theorem d_Law_row_5 : decode method_12_code 5 = .ok (.invokevirtual 48, 3) := by decide +kernel
theorem d_Law_row_8 : decode method_12_code 8 = .ok (.i2l, 1) := by decide +kernel
theorem d_Law_row_9 : decode method_12_code 9 = .ok (.lastore, 1) := by decide +kernel
theorem d_Law_row_10 : decode method_12_code 10 = .ok (.goto 11, 3) := by decide +kernel
theorem d_Law_row_13 : decode method_12_code 13 = .ok (.astore 4, 2) := by decide +kernel
theorem d_Law_row_15 : decode method_12_code 15 = .ok (.iconst 1, 1) := by decide +kernel
theorem d_Law_row_16 : decode method_12_code 16 = .ok (.ireturn, 1) := by decide +kernel
theorem d_Law_row_17 : decode method_12_code 17 = .ok (.astore 4, 2) := by decide +kernel
theorem d_Law_row_19 : decode method_12_code 19 = .ok (.iconst 2, 1) := by decide +kernel
theorem d_Law_row_20 : decode method_12_code 20 = .ok (.ireturn, 1) := by decide +kernel
theorem d_Law_row_21 : decode method_12_code 21 = .ok (.iconst 0, 1) := by decide +kernel
theorem d_Law_row_22 : decode method_12_code 22 = .ok (.ireturn, 1) := by decide +kernel
noncomputable def M_Law_row (x1 : Int32) (x2 : Int32) (u : gSt) : Option (Int32 × gSt) :=
  match E_Desk_row x1 x2 u with
  | some k => if k = 2 then (some ((1 : Int32), u)) else if k = 1 then (some ((2 : Int32), u)) else none
  | none => (M_Desk_row x1 x2 u).bind fun q5 =>
    gc (gIn (0 : Int32) (gLen 66)) <| (some (gsL q5.2 66 (gIx (0 : Int32)) q5.1.toInt64)).bind fun u9 =>
    some ((0 : Int32), u9)
set_option maxHeartbeats 4000000 in
set_option maxRecDepth 100000 in
theorem c_Law_row {l : Launch} {cy : Nat → ClassId} {D : va_G} {ρ : Nat → Nat} {A : Nat → Prop} (hfl : l.stackTraces = false) (hD : gD ρ A) {x1 : Int32} {x2 : Int32} {u : gSt} {z : Int32 × gSt} (hM : M_Law_row x1 x2 u = some z) : gCtW l y_Law_row method_12_code 5 [(0, 10, 13, 31), (0, 10, 17, 19)] 7 113 cy D ρ A [.ref (ρ 0), .int x1, .int x2, .ref (ρ 66)] u z.1 z.2 := by
  refine g_metW (by decide) hD (Nat.le_of_ble_eq_true rfl) (fun p e s m below meth c ls C X2 hxt hl hP => ?_)
  have hx := C.1
  have hb := C.2.1
  have hS : va_S A s.heap s.heap [] := va_S.rf
  unfold M_Law_row at hM
  have hl : lv_has ls 5 [(0, .ref (ρ 0)), (1, .int x1), (2, .int x2), (3, .ref (ρ 66))] := hl
  refine lv_aload_n hx hb d_Law_row_0 rfl (lv_at hl 3 rfl) ?_
  refine lv_iconst (v := (0 : Int32)) hx hb d_Law_row_1 (by decide) ?_
  refine lv_aload_n hx hb d_Law_row_2 rfl (lv_at hl 0 rfl) ?_
  refine lv_iload_n hx hb d_Law_row_3 rfl (lv_at hl 1 rfl) ?_
  refine lv_iload_n hx hb d_Law_row_4 rfl (lv_at hl 2 rfl) ?_
  cases hE : E_Desk_row x1 x2 u with
  | some k =>
    rw [hE] at hM
    dsimp only at hM
    by_cases hk2 : k = 2
    · replace hM := gi_t hk2 hM
      subst hk2
      refine g_catch (As := [.int x1, .int x2]) (rest := [.int (0 : Int32), .ref (ρ 66)]) C X2 hP hS (e_Desk_row hfl C.2.2.2.2.2.2.2.2.1 hE) gi_Desk_row (gWs_at 954 (by decide +kernel) (by decide +kernel)) rfl rfl (by decide) (by decide) (Nat.le_refl _) (Nat.le_refl _) hl.1 rfl (Nat.le_of_ble_eq_true rfl) d_Law_row_5 (g_hnd1 C X2 hxt (by decide) (by decide) (by decide) (gWs_at 775 (by decide +kernel) (by decide +kernel)) (gFs_at 783 (by decide +kernel) (by decide +kernel))) (fun H x13 hP hS => ?_)
      refine lv_astore (lv' := [(4, .ref x13), (0, .ref (ρ 0)), (1, .int x1), (2, .int x2), (3, .ref (ρ 66))]) hx hb d_Law_row_13 hl (by decide) rfl (fun ls hl => ?_)
      refine lv_iconst (v := (1 : Int32)) hx hb d_Law_row_15 (by decide) ?_
      obtain rfl := Option.some.inj hM
      exact g_iretU C X2 hP hS (by decide) (by decide) d_Law_row_16
    replace hM := gi_f hk2 hM
    by_cases hk1 : k = 1
    · replace hM := gi_t hk1 hM
      subst hk1
      refine g_catch (As := [.int x1, .int x2]) (rest := [.int (0 : Int32), .ref (ρ 66)]) C X2 hP hS (e_Desk_row hfl C.2.2.2.2.2.2.2.2.1 hE) gi_Desk_row (gWs_at 954 (by decide +kernel) (by decide +kernel)) rfl rfl (by decide) (by decide) (Nat.le_refl _) (Nat.le_refl _) hl.1 rfl (Nat.le_of_ble_eq_true rfl) d_Law_row_5 (g_hnd2 C X2 hxt (by decide) (by decide) (by decide) (by decide) (by decide) (by decide) (gWs_at 699 (by decide +kernel) (by decide +kernel)) (gWs_at 775 (by decide +kernel) (by decide +kernel)) (gFs_at 706 (by decide +kernel) (by decide +kernel))) (fun H x17 hP hS => ?_)
      refine lv_astore (lv' := [(4, .ref x17), (0, .ref (ρ 0)), (1, .int x1), (2, .int x2), (3, .ref (ρ 66))]) hx hb d_Law_row_17 hl (by decide) rfl (fun ls hl => ?_)
      refine lv_iconst (v := (2 : Int32)) hx hb d_Law_row_19 (by decide) ?_
      obtain rfl := Option.some.inj hM
      exact g_iretU C X2 hP hS (by decide) (by decide) d_Law_row_20
    replace hM := gi_f hk1 hM
    cases hM
  | none =>
    rw [hE] at hM
    dsimp only at hM
    obtain ⟨q5, hq5, hM⟩ := gb_some hM
    refine g_backI (g_runV (As := [.int x1, .int x2]) C hP (c_Desk_row C.2.2.2.2.2.2.2.2.1 hq5) gi_Desk_row gm_Law_48 rfl rfl (by decide) (by decide) hl.1 rfl (Nat.le_of_ble_eq_true rfl) d_Law_row_5) hS (fun H locs hP hS => ?_)
    refine lv_i2l (v := q5.1.toInt64) hx hb d_Law_row_8 rfl ?_
    obtain ⟨hi9, hM⟩ := gc_some hM
    obtain ⟨u9, e9, hM⟩ := gb_some hM
    refine g_last C hP hS rfl hi9 d_Law_row_9 (fun H locs hP hS => ?_)
    rw [Option.some.inj e9] at hP
    refine lv_goto (tgt := 21) hx hb d_Law_row_10 (by decide) ?_
    refine lv_iconst (v := (0 : Int32)) hx hb d_Law_row_21 (by decide) ?_
    obtain rfl := Option.some.inj hM
    exact g_iretU C X2 hP hS (by decide) (by decide) d_Law_row_22
end
section
def y_Law_print : MethodName := ⟨"TermDeskLaw", "print", "(LTermDesk;III[J)I"⟩
theorem d_Law_print_0 : decode method_13_code 0 = .ok (.aload 4, 2) := by decide +kernel
theorem d_Law_print_2 : decode method_13_code 2 = .ok (.iconst 0, 1) := by decide +kernel
theorem d_Law_print_3 : decode method_13_code 3 = .ok (.aload_n 0, 1) := by decide +kernel
theorem d_Law_print_4 : decode method_13_code 4 = .ok (.iload_n 1, 1) := by decide +kernel
theorem d_Law_print_5 : decode method_13_code 5 = .ok (.iload_n 2, 1) := by decide +kernel
theorem d_Law_print_6 : decode method_13_code 6 = .ok (.iload_n 3, 1) := by decide +kernel
theorem d_Law_print_7 : decode method_13_code 7 = .ok (.invokevirtual 51, 3) := by decide +kernel
theorem d_Law_print_10 : decode method_13_code 10 = .ok (.i2l, 1) := by decide +kernel
theorem d_Law_print_11 : decode method_13_code 11 = .ok (.lastore, 1) := by decide +kernel
theorem d_Law_print_12 : decode method_13_code 12 = .ok (.goto 11, 3) := by decide +kernel
theorem d_Law_print_15 : decode method_13_code 15 = .ok (.astore 5, 2) := by decide +kernel
theorem d_Law_print_17 : decode method_13_code 17 = .ok (.iconst 1, 1) := by decide +kernel
theorem d_Law_print_18 : decode method_13_code 18 = .ok (.ireturn, 1) := by decide +kernel
theorem d_Law_print_19 : decode method_13_code 19 = .ok (.astore 5, 2) := by decide +kernel
theorem d_Law_print_21 : decode method_13_code 21 = .ok (.iconst 2, 1) := by decide +kernel
theorem d_Law_print_22 : decode method_13_code 22 = .ok (.ireturn, 1) := by decide +kernel
theorem d_Law_print_23 : decode method_13_code 23 = .ok (.iconst 0, 1) := by decide +kernel
theorem d_Law_print_24 : decode method_13_code 24 = .ok (.ireturn, 1) := by decide +kernel
noncomputable def M_Law_print (x1 : Int32) (x2 : Int32) (x3 : Int32) (u : gSt) : Option (Int32 × gSt) :=
  match E_Desk_print x1 x2 x3 u with
  | some k => if k = 2 then (some ((1 : Int32), u)) else if k = 1 then (some ((2 : Int32), u)) else none
  | none => (M_Desk_print x1 x2 x3 u).bind fun q7 =>
    gc (gIn (0 : Int32) (gLen 66)) <| (some (gsL q7.2 66 (gIx (0 : Int32)) q7.1.toInt64)).bind fun u11 =>
    some ((0 : Int32), u11)
set_option maxHeartbeats 4000000 in
set_option maxRecDepth 100000 in
theorem c_Law_print {l : Launch} {cy : Nat → ClassId} {D : va_G} {ρ : Nat → Nat} {A : Nat → Prop} (hfl : l.stackTraces = false) (hD : gD ρ A) {x1 : Int32} {x2 : Int32} {x3 : Int32} {u : gSt} {z : Int32 × gSt} (hM : M_Law_print x1 x2 x3 u = some z) : gCtW l y_Law_print method_13_code 6 [(0, 12, 15, 31), (0, 12, 19, 19)] 7 128 cy D ρ A [.ref (ρ 0), .int x1, .int x2, .int x3, .ref (ρ 66)] u z.1 z.2 := by
  refine g_metW (by decide) hD (Nat.le_of_ble_eq_true rfl) (fun p e s m below meth c ls C X2 hxt hl hP => ?_)
  have hx := C.1
  have hb := C.2.1
  have hS : va_S A s.heap s.heap [] := va_S.rf
  unfold M_Law_print at hM
  have hl : lv_has ls 6 [(0, .ref (ρ 0)), (1, .int x1), (2, .int x2), (3, .int x3), (4, .ref (ρ 66))] := hl
  refine lv_aload hx hb d_Law_print_0 (lv_at hl 4 rfl) ?_
  refine lv_iconst (v := (0 : Int32)) hx hb d_Law_print_2 (by decide) ?_
  refine lv_aload_n hx hb d_Law_print_3 rfl (lv_at hl 0 rfl) ?_
  refine lv_iload_n hx hb d_Law_print_4 rfl (lv_at hl 1 rfl) ?_
  refine lv_iload_n hx hb d_Law_print_5 rfl (lv_at hl 2 rfl) ?_
  refine lv_iload_n hx hb d_Law_print_6 rfl (lv_at hl 3 rfl) ?_
  cases hE : E_Desk_print x1 x2 x3 u with
  | some k =>
    rw [hE] at hM
    dsimp only at hM
    by_cases hk2 : k = 2
    · replace hM := gi_t hk2 hM
      subst hk2
      refine g_catch (As := [.int x1, .int x2, .int x3]) (rest := [.int (0 : Int32), .ref (ρ 66)]) C X2 hP hS (e_Desk_print hfl C.2.2.2.2.2.2.2.2.1 hE) gi_Desk_print (gWs_at 967 (by decide +kernel) (by decide +kernel)) rfl rfl (by decide) (by decide) (Nat.le_refl _) (Nat.le_refl _) hl.1 rfl (Nat.le_of_ble_eq_true rfl) d_Law_print_7 (g_hnd1 C X2 hxt (by decide) (by decide) (by decide) (gWs_at 775 (by decide +kernel) (by decide +kernel)) (gFs_at 783 (by decide +kernel) (by decide +kernel))) (fun H x15 hP hS => ?_)
      refine lv_astore (lv' := [(5, .ref x15), (0, .ref (ρ 0)), (1, .int x1), (2, .int x2), (3, .int x3), (4, .ref (ρ 66))]) hx hb d_Law_print_15 hl (by decide) rfl (fun ls hl => ?_)
      refine lv_iconst (v := (1 : Int32)) hx hb d_Law_print_17 (by decide) ?_
      obtain rfl := Option.some.inj hM
      exact g_iretU C X2 hP hS (by decide) (by decide) d_Law_print_18
    replace hM := gi_f hk2 hM
    by_cases hk1 : k = 1
    · replace hM := gi_t hk1 hM
      subst hk1
      refine g_catch (As := [.int x1, .int x2, .int x3]) (rest := [.int (0 : Int32), .ref (ρ 66)]) C X2 hP hS (e_Desk_print hfl C.2.2.2.2.2.2.2.2.1 hE) gi_Desk_print (gWs_at 967 (by decide +kernel) (by decide +kernel)) rfl rfl (by decide) (by decide) (Nat.le_refl _) (Nat.le_refl _) hl.1 rfl (Nat.le_of_ble_eq_true rfl) d_Law_print_7 (g_hnd2 C X2 hxt (by decide) (by decide) (by decide) (by decide) (by decide) (by decide) (gWs_at 699 (by decide +kernel) (by decide +kernel)) (gWs_at 775 (by decide +kernel) (by decide +kernel)) (gFs_at 706 (by decide +kernel) (by decide +kernel))) (fun H x19 hP hS => ?_)
      refine lv_astore (lv' := [(5, .ref x19), (0, .ref (ρ 0)), (1, .int x1), (2, .int x2), (3, .int x3), (4, .ref (ρ 66))]) hx hb d_Law_print_19 hl (by decide) rfl (fun ls hl => ?_)
      refine lv_iconst (v := (2 : Int32)) hx hb d_Law_print_21 (by decide) ?_
      obtain rfl := Option.some.inj hM
      exact g_iretU C X2 hP hS (by decide) (by decide) d_Law_print_22
    replace hM := gi_f hk1 hM
    cases hM
  | none =>
    rw [hE] at hM
    dsimp only at hM
    obtain ⟨q7, hq7, hM⟩ := gb_some hM
    refine g_backI (g_runV (As := [.int x1, .int x2, .int x3]) C hP (c_Desk_print C.2.2.2.2.2.2.2.2.1 hq7) gi_Desk_print gm_Law_51 rfl rfl (by decide) (by decide) hl.1 rfl (Nat.le_of_ble_eq_true rfl) d_Law_print_7) hS (fun H locs hP hS => ?_)
    refine lv_i2l (v := q7.1.toInt64) hx hb d_Law_print_10 rfl ?_
    obtain ⟨hi11, hM⟩ := gc_some hM
    obtain ⟨u11, e11, hM⟩ := gb_some hM
    refine g_last C hP hS rfl hi11 d_Law_print_11 (fun H locs hP hS => ?_)
    rw [Option.some.inj e11] at hP
    refine lv_goto (tgt := 23) hx hb d_Law_print_12 (by decide) ?_
    refine lv_iconst (v := (0 : Int32)) hx hb d_Law_print_23 (by decide) ?_
    obtain rfl := Option.some.inj hM
    exact g_iretU C X2 hP hS (by decide) (by decide) d_Law_print_24
end
