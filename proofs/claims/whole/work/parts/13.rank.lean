/-! printed by wip/whole/gen/gen.py -/
section
variable {p : Program} {l : Launch} {e : Env} {R : Room} {s : State} {m : MethodId} {args : Array Value} {below : List Frame} {meth : Method} {c : Code} {Q : State → Prop} {H0 : Heap} {cells slots : Nat} {cy : Nat → ClassId} {D : va_G} {ρ : Nat → Nat} {A : Nat → Prop}
def y_Ranking_slot : MethodName := ⟨"TermDesk$Ranking", "slot", "(II)I"⟩
theorem gi_Ranking_slot : gMs y_Ranking_slot prog_8_method_2_code 2 (some .int) 2 := ⟨(gWs_at 896 (by decide +kernel) (by decide +kernel)), (gWs_at 895 (by decide +kernel) (by decide +kernel)), (gWs_at 123 (by decide +kernel) (by decide +kernel)), ⟨by decide +kernel, by decide +kernel, by decide +kernel⟩⟩
theorem gm_Ranking_78 : gMk "TermDesk$Ranking" 78 y_Ranking_slot := Or.inl (gWs_at 894 (by decide +kernel) (by decide +kernel))
theorem gm_Desk_214 : gMk "TermDesk" 214 y_Ranking_slot := Or.inr ⟨"TermDesk", gNs_at 972 (by decide +kernel) (by decide +kernel)⟩
theorem d_Ranking_slot_0 : decode prog_8_method_2_code 0 = .ok (.iload_n 0, 1) := by decide +kernel
theorem d_Ranking_slot_1 : decode prog_8_method_2_code 1 = .ok (.sipush 200, 3) := by decide +kernel
theorem d_Ranking_slot_4 : decode prog_8_method_2_code 4 = .ok (.imul, 1) := by decide +kernel
theorem d_Ranking_slot_5 : decode prog_8_method_2_code 5 = .ok (.iload_n 1, 1) := by decide +kernel
theorem d_Ranking_slot_6 : decode prog_8_method_2_code 6 = .ok (.iadd, 1) := by decide +kernel
theorem d_Ranking_slot_7 : decode prog_8_method_2_code 7 = .ok (.ireturn, 1) := by decide +kernel
noncomputable def M_Ranking_slot (x0 : Int32) (x1 : Int32) (u : gSt) : Option ((Int32 × gSt)) :=
  some ((x0 * (200 : Int32)) + x1, u)
set_option maxHeartbeats 4000000 in
set_option maxRecDepth 100000 in
theorem t_Ranking_slot (C : gX "TermDesk$Ranking" prog_8_method_2_code 2 (some .int) 0 0 R cells slots cy D ρ A p s m args meth c) {x0 : Int32} {x1 : Int32} {u : gSt} {z : (Int32 × gSt)} (hM : M_Ranking_slot x0 x1 u = some z) (hR : gRtI p l e R s m args below meth c Q H0 cells slots cy D ρ A prog_8_method_2_code z.1 z.2) : gAt p l e R s m args below meth c Q H0 cells slots cy D ρ A 2 0 [(0, .int x0), (1, .int x1)] [] u := by
  intro ls H locs hl hP hS
  have hx := C.1
  have hb := C.2.1
  unfold M_Ranking_slot at hM
  refine lv_iload_n hx hb d_Ranking_slot_0 rfl (lv_at hl 0 rfl) ?_
  refine lv_sipush (v := (200 : Int32)) hx hb d_Ranking_slot_1 (by decide) ?_
  refine lv_imul hx hb d_Ranking_slot_4 ?_
  refine lv_iload_n hx hb d_Ranking_slot_5 rfl (lv_at hl 1 rfl) ?_
  refine lv_iadd hx hb d_Ranking_slot_6 ?_
  obtain rfl := Option.some.inj hM
  exact hR _ ls H locs d_Ranking_slot_7 hP hS
theorem c_Ranking_slot {l : Launch} {cy : Nat → ClassId} {D : va_G} {ρ : Nat → Nat} {A : Nat → Prop} (hD : gD ρ A) {x0 : Int32} {x1 : Int32} {u : gSt} {z : (Int32 × gSt)} (hM : M_Ranking_slot x0 x1 u = some z) : gCtI l y_Ranking_slot prog_8_method_2_code 2 (some .int) 0 0 cy D ρ A [.int x0, .int x1] u z.1 z.2 :=
  g_met (by decide) hD (Nat.le_of_ble_eq_true rfl) (fun p e s m below meth c ls X hl hP => t_Ranking_slot X hM (fun pc ls H locs hd hP hS => g_iret X hP hS hd) ls _ [] hl hP va_S.rf)
end
section
variable {p : Program} {l : Launch} {e : Env} {R : Room} {s : State} {m : MethodId} {args : Array Value} {below : List Frame} {meth : Method} {c : Code} {Q : State → Prop} {H0 : Heap} {cells slots : Nat} {cy : Nat → ClassId} {D : va_G} {ρ : Nat → Nat} {A : Nat → Prop}
def y_Ranking_isWithin : MethodName := ⟨"TermDesk$Ranking", "isWithin", "(III)Z"⟩
theorem gi_Ranking_isWithin : gMi y_Ranking_isWithin prog_8_method_14_code 4 (some .boolean) 3 6 := ⟨(gWs_at 950 (by decide +kernel) (by decide +kernel)), (gWs_at 949 (by decide +kernel) (by decide +kernel)), (gWs_at 56 (by decide +kernel) (by decide +kernel)), (gWs_at 123 (by decide +kernel) (by decide +kernel)), ⟨by decide +kernel, by decide +kernel, by decide +kernel⟩, _, _, rfl⟩
theorem gm_Ranking_145 : gMk "TermDesk$Ranking" 145 y_Ranking_isWithin := Or.inl (gWs_at 947 (by decide +kernel) (by decide +kernel))
theorem d_Ranking_isWithin_0 : decode prog_8_method_14_code 0 = .ok (.aload_n 0, 1) := by decide +kernel
theorem d_Ranking_isWithin_1 : decode prog_8_method_14_code 1 = .ok (.getfield 25, 3) := by decide +kernel
theorem d_Ranking_isWithin_4 : decode prog_8_method_14_code 4 = .ok (.iload_n 1, 1) := by decide +kernel
theorem d_Ranking_isWithin_5 : decode prog_8_method_14_code 5 = .ok (.aaload, 1) := by decide +kernel
theorem d_Ranking_isWithin_6 : decode prog_8_method_14_code 6 = .ok (.aload_n 0, 1) := by decide +kernel
theorem d_Ranking_isWithin_7 : decode prog_8_method_14_code 7 = .ok (.getfield 40, 3) := by decide +kernel
theorem d_Ranking_isWithin_10 : decode prog_8_method_14_code 10 = .ok (.invokestatic 113, 3) := by decide +kernel
theorem d_Ranking_isWithin_13 : decode prog_8_method_14_code 13 = .ok (.aload_n 0, 1) := by decide +kernel
theorem d_Ranking_isWithin_14 : decode prog_8_method_14_code 14 = .ok (.getfield 40, 3) := by decide +kernel
theorem d_Ranking_isWithin_17 : decode prog_8_method_14_code 17 = .ok (.iload_n 3, 1) := by decide +kernel
theorem d_Ranking_isWithin_18 : decode prog_8_method_14_code 18 = .ok (.invokestatic 125, 3) := by decide +kernel
theorem d_Ranking_isWithin_21 : decode prog_8_method_14_code 21 = .ok (.aload_n 0, 1) := by decide +kernel
theorem d_Ranking_isWithin_22 : decode prog_8_method_14_code 22 = .ok (.getfield 31, 3) := by decide +kernel
theorem d_Ranking_isWithin_25 : decode prog_8_method_14_code 25 = .ok (.aload_n 0, 1) := by decide +kernel
theorem d_Ranking_isWithin_26 : decode prog_8_method_14_code 26 = .ok (.getfield 43, 3) := by decide +kernel
theorem d_Ranking_isWithin_29 : decode prog_8_method_14_code 29 = .ok (.invokestatic 113, 3) := by decide +kernel
theorem d_Ranking_isWithin_32 : decode prog_8_method_14_code 32 = .ok (.aload_n 0, 1) := by decide +kernel
theorem d_Ranking_isWithin_33 : decode prog_8_method_14_code 33 = .ok (.getfield 43, 3) := by decide +kernel
theorem d_Ranking_isWithin_36 : decode prog_8_method_14_code 36 = .ok (.aload_n 0, 1) := by decide +kernel
theorem d_Ranking_isWithin_37 : decode prog_8_method_14_code 37 = .ok (.getfield 28, 3) := by decide +kernel
theorem d_Ranking_isWithin_40 : decode prog_8_method_14_code 40 = .ok (.iload_n 1, 1) := by decide +kernel
theorem d_Ranking_isWithin_41 : decode prog_8_method_14_code 41 = .ok (.iaload, 1) := by decide +kernel
theorem d_Ranking_isWithin_42 : decode prog_8_method_14_code 42 = .ok (.invokestatic 125, 3) := by decide +kernel
theorem d_Ranking_isWithin_45 : decode prog_8_method_14_code 45 = .ok (.aload_n 0, 1) := by decide +kernel
theorem d_Ranking_isWithin_46 : decode prog_8_method_14_code 46 = .ok (.getfield 43, 3) := by decide +kernel
theorem d_Ranking_isWithin_49 : decode prog_8_method_14_code 49 = .ok (.iload_n 2, 1) := by decide +kernel
theorem d_Ranking_isWithin_50 : decode prog_8_method_14_code 50 = .ok (.invokestatic 125, 3) := by decide +kernel
theorem d_Ranking_isWithin_53 : decode prog_8_method_14_code 53 = .ok (.aload_n 0, 1) := by decide +kernel
theorem d_Ranking_isWithin_54 : decode prog_8_method_14_code 54 = .ok (.getfield 40, 3) := by decide +kernel
theorem d_Ranking_isWithin_57 : decode prog_8_method_14_code 57 = .ok (.aload_n 0, 1) := by decide +kernel
theorem d_Ranking_isWithin_58 : decode prog_8_method_14_code 58 = .ok (.getfield 43, 3) := by decide +kernel
theorem d_Ranking_isWithin_61 : decode prog_8_method_14_code 61 = .ok (.invokestatic 134, 3) := by decide +kernel
theorem d_Ranking_isWithin_64 : decode prog_8_method_14_code 64 = .ok (.ifCond .gt 7, 3) := by decide +kernel
theorem d_Ranking_isWithin_67 : decode prog_8_method_14_code 67 = .ok (.iconst 1, 1) := by decide +kernel
theorem d_Ranking_isWithin_68 : decode prog_8_method_14_code 68 = .ok (.goto 4, 3) := by decide +kernel
theorem d_Ranking_isWithin_71 : decode prog_8_method_14_code 71 = .ok (.iconst 0, 1) := by decide +kernel
theorem d_Ranking_isWithin_72 : decode prog_8_method_14_code 72 = .ok (.ireturn, 1) := by decide +kernel
noncomputable def M_Ranking_isWithin_b72 (s0 : Int32) (u : gSt) : Option ((Int32 × gSt)) :=
  gc (gZ s0) <| some (s0, u)
set_option maxHeartbeats 4000000 in
set_option maxRecDepth 100000 in
theorem t_Ranking_isWithin_b72 (C : gX "TermDesk$Ranking" prog_8_method_14_code 4 (some .boolean) 2 81 R cells slots cy D ρ A p s m args meth c) {s0 : Int32} {u : gSt} {z : (Int32 × gSt)} (hM : M_Ranking_isWithin_b72 s0 u = some z) (hR : gRtZ p l e R s m args below meth c Q H0 cells slots cy D ρ A prog_8_method_14_code z.1 z.2) : gAt p l e R s m args below meth c Q H0 cells slots cy D ρ A 4 72 [] [.int s0] u := by
  intro ls H locs hl hP hS
  have hx := C.1
  have hb := C.2.1
  unfold M_Ranking_isWithin_b72 at hM
  obtain ⟨hz72, hM⟩ := gc_some hM
  obtain rfl := Option.some.inj hM
  exact hR _ ls H locs hz72 d_Ranking_isWithin_72 hP hS
noncomputable def M_Ranking_isWithin (x1 : Int32) (x2 : Int32) (x3 : Int32) (u : gSt) : Option ((Int32 × gSt)) :=
  gc (gIn x1 (gLen 31)) <| (gAR 31 (gIx x1)).bind fun r5 => (M_Wide_copy r5 36 u).bind fun q10 =>
  (M_Wide_multiply 36 x3 q10).bind fun q18 =>
  (M_Wide_copy 33 37 q18).bind fun q29 =>
  gc (gIn x1 (gLen 32)) <| (M_Wide_multiply 37 (q29.2.2.1 32 (gIx x1)) q29).bind fun q42 =>
  (M_Wide_multiply 37 x2 q42).bind fun q50 =>
  (M_Wide_compare 36 37 q50).bind fun q61 =>
  if (0 : Int32) < q61.1 then
    (M_Ranking_isWithin_b72 (0 : Int32) q61.2)
  else
    (M_Ranking_isWithin_b72 (1 : Int32) q61.2)
set_option maxHeartbeats 4000000 in
set_option maxRecDepth 100000 in
theorem t_Ranking_isWithin (C : gX "TermDesk$Ranking" prog_8_method_14_code 4 (some .boolean) 2 81 R cells slots cy D ρ A p s m args meth c) {x1 : Int32} {x2 : Int32} {x3 : Int32} {u : gSt} {z : (Int32 × gSt)} (hM : M_Ranking_isWithin x1 x2 x3 u = some z) (hR : gRtZ p l e R s m args below meth c Q H0 cells slots cy D ρ A prog_8_method_14_code z.1 z.2) : gAt p l e R s m args below meth c Q H0 cells slots cy D ρ A 4 0 [(0, .ref (ρ 27)), (1, .int x1), (2, .int x2), (3, .int x3)] [] u := by
  intro ls H locs hl hP hS
  have hx := C.1
  have hb := C.2.1
  unfold M_Ranking_isWithin at hM
  refine lv_aload_n hx hb d_Ranking_isWithin_0 rfl (lv_at hl 0 rfl) ?_
  refine g_getR (b := 31) C hP gl_Ranking_25 rfl rfl rfl d_Ranking_isWithin_1 ?_
  refine lv_iload_n hx hb d_Ranking_isWithin_4 rfl (lv_at hl 1 rfl) ?_
  obtain ⟨hi5, hM⟩ := gc_some hM
  obtain ⟨r5, hr5, hM⟩ := gb_some hM
  refine g_aald C hP rfl hi5 hr5 d_Ranking_isWithin_5 ?_
  refine lv_aload_n hx hb d_Ranking_isWithin_6 rfl (lv_at hl 0 rfl) ?_
  refine g_getR (b := 36) C hP gl_Ranking_40 rfl rfl rfl d_Ranking_isWithin_7 ?_
  obtain ⟨q10, hq10, hM⟩ := gb_some hM
  refine g_backV (g_runS (As := [.ref (ρ r5), .ref (ρ 36)]) C hP (c_Wide_copy C.2.2.2.2.2.2.2.2.1 hq10) gi_Wide_copy gm_Ranking_113 rfl (by decide) (by decide) hl.1 rfl (Nat.le_of_ble_eq_true rfl) d_Ranking_isWithin_10) hS (fun H locs hP hS => ?_)
  refine lv_aload_n hx hb d_Ranking_isWithin_13 rfl (lv_at hl 0 rfl) ?_
  refine g_getR (b := 36) C hP gl_Ranking_40 rfl rfl rfl d_Ranking_isWithin_14 ?_
  refine lv_iload_n hx hb d_Ranking_isWithin_17 rfl (lv_at hl 3 rfl) ?_
  obtain ⟨q18, hq18, hM⟩ := gb_some hM
  refine g_backV (g_runS (As := [.ref (ρ 36), .int x3]) C hP (c_Wide_multiply C.2.2.2.2.2.2.2.2.1 hq18) gi_Wide_multiply gm_Ranking_125 rfl (by decide) (by decide) hl.1 rfl (Nat.le_of_ble_eq_true rfl) d_Ranking_isWithin_18) hS (fun H locs hP hS => ?_)
  refine lv_aload_n hx hb d_Ranking_isWithin_21 rfl (lv_at hl 0 rfl) ?_
  refine g_getR (b := 33) C hP gl_Ranking_31 rfl rfl rfl d_Ranking_isWithin_22 ?_
  refine lv_aload_n hx hb d_Ranking_isWithin_25 rfl (lv_at hl 0 rfl) ?_
  refine g_getR (b := 37) C hP gl_Ranking_43 rfl rfl rfl d_Ranking_isWithin_26 ?_
  obtain ⟨q29, hq29, hM⟩ := gb_some hM
  refine g_backV (g_runS (As := [.ref (ρ 33), .ref (ρ 37)]) C hP (c_Wide_copy C.2.2.2.2.2.2.2.2.1 hq29) gi_Wide_copy gm_Ranking_113 rfl (by decide) (by decide) hl.1 rfl (Nat.le_of_ble_eq_true rfl) d_Ranking_isWithin_29) hS (fun H locs hP hS => ?_)
  refine lv_aload_n hx hb d_Ranking_isWithin_32 rfl (lv_at hl 0 rfl) ?_
  refine g_getR (b := 37) C hP gl_Ranking_43 rfl rfl rfl d_Ranking_isWithin_33 ?_
  refine lv_aload_n hx hb d_Ranking_isWithin_36 rfl (lv_at hl 0 rfl) ?_
  refine g_getR (b := 32) C hP gl_Ranking_28 rfl rfl rfl d_Ranking_isWithin_37 ?_
  refine lv_iload_n hx hb d_Ranking_isWithin_40 rfl (lv_at hl 1 rfl) ?_
  obtain ⟨hi41, hM⟩ := gc_some hM
  refine g_iald C hP rfl hi41 d_Ranking_isWithin_41 ?_
  obtain ⟨q42, hq42, hM⟩ := gb_some hM
  refine g_backV (g_runS (As := [.ref (ρ 37), .int (q29.2.2.1 32 (gIx x1))]) C hP (c_Wide_multiply C.2.2.2.2.2.2.2.2.1 hq42) gi_Wide_multiply gm_Ranking_125 rfl (by decide) (by decide) hl.1 rfl (Nat.le_of_ble_eq_true rfl) d_Ranking_isWithin_42) hS (fun H locs hP hS => ?_)
  refine lv_aload_n hx hb d_Ranking_isWithin_45 rfl (lv_at hl 0 rfl) ?_
  refine g_getR (b := 37) C hP gl_Ranking_43 rfl rfl rfl d_Ranking_isWithin_46 ?_
  refine lv_iload_n hx hb d_Ranking_isWithin_49 rfl (lv_at hl 2 rfl) ?_
  obtain ⟨q50, hq50, hM⟩ := gb_some hM
  refine g_backV (g_runS (As := [.ref (ρ 37), .int x2]) C hP (c_Wide_multiply C.2.2.2.2.2.2.2.2.1 hq50) gi_Wide_multiply gm_Ranking_125 rfl (by decide) (by decide) hl.1 rfl (Nat.le_of_ble_eq_true rfl) d_Ranking_isWithin_50) hS (fun H locs hP hS => ?_)
  refine lv_aload_n hx hb d_Ranking_isWithin_53 rfl (lv_at hl 0 rfl) ?_
  refine g_getR (b := 36) C hP gl_Ranking_40 rfl rfl rfl d_Ranking_isWithin_54 ?_
  refine lv_aload_n hx hb d_Ranking_isWithin_57 rfl (lv_at hl 0 rfl) ?_
  refine g_getR (b := 37) C hP gl_Ranking_43 rfl rfl rfl d_Ranking_isWithin_58 ?_
  obtain ⟨q61, hq61, hM⟩ := gb_some hM
  refine g_backI (g_runS (As := [.ref (ρ 36), .ref (ρ 37)]) C hP (c_Wide_compare C.2.2.2.2.2.2.2.2.1 hq61) gi_Wide_compare gm_Ranking_134 rfl (by decide) (by decide) hl.1 rfl (Nat.le_of_ble_eq_true rfl) d_Ranking_isWithin_61) hS (fun H locs hP hS => ?_)
  refine lv_if_gt (tgt := 71) hx hb d_Ranking_isWithin_64 (by decide) (fun hc64 => ?_) (fun hc64 => ?_)
  · replace hM := gi_t hc64 hM
    refine lv_iconst (v := (0 : Int32)) hx hb d_Ranking_isWithin_71 (by decide) ?_
    exact t_Ranking_isWithin_b72 C hM hR ls H locs (lv_sub hl [] rfl) hP hS
  · replace hM := gi_f hc64 hM
    refine lv_iconst (v := (1 : Int32)) hx hb d_Ranking_isWithin_67 (by decide) ?_
    refine lv_goto (tgt := 72) hx hb d_Ranking_isWithin_68 (by decide) ?_
    exact t_Ranking_isWithin_b72 C hM hR ls H locs (lv_sub hl [] rfl) hP hS
theorem c_Ranking_isWithin {l : Launch} {cy : Nat → ClassId} {D : va_G} {ρ : Nat → Nat} {A : Nat → Prop} (hD : gD ρ A) {x1 : Int32} {x2 : Int32} {x3 : Int32} {u : gSt} {z : (Int32 × gSt)} (hM : M_Ranking_isWithin x1 x2 x3 u = some z) : gCtI l y_Ranking_isWithin prog_8_method_14_code 4 (some .boolean) 2 81 cy D ρ A [.ref (ρ 27), .int x1, .int x2, .int x3] u z.1 z.2 :=
  g_met (by decide) hD (Nat.le_of_ble_eq_true rfl) (fun p e s m below meth c ls X hl hP => t_Ranking_isWithin X hM (fun pc ls H locs hz hd hP hS => g_zret X hP hS hz hd) ls _ [] hl hP va_S.rf)
end
section
variable {p : Program} {l : Launch} {e : Env} {R : Room} {s : State} {m : MethodId} {args : Array Value} {below : List Frame} {meth : Method} {c : Code} {Q : State → Prop} {H0 : Heap} {cells slots : Nat} {cy : Nat → ClassId} {D : va_G} {ρ : Nat → Nat} {A : Nat → Prop}
def y_Ranking_compareSlots : MethodName := ⟨"TermDesk$Ranking", "compareSlots", "(II)I"⟩
theorem gi_Ranking_compareSlots : gMi y_Ranking_compareSlots prog_8_method_12_code 3 (some .int) 2 6 := ⟨(gWs_at 922 (by decide +kernel) (by decide +kernel)), (gWs_at 921 (by decide +kernel) (by decide +kernel)), (gWs_at 50 (by decide +kernel) (by decide +kernel)), (gWs_at 123 (by decide +kernel) (by decide +kernel)), ⟨by decide +kernel, by decide +kernel, by decide +kernel⟩, _, _, rfl⟩
theorem gm_Ranking_138 : gMk "TermDesk$Ranking" 138 y_Ranking_compareSlots := Or.inl (gWs_at 919 (by decide +kernel) (by decide +kernel))
theorem d_Ranking_compareSlots_0 : decode prog_8_method_12_code 0 = .ok (.aload_n 0, 1) := by decide +kernel
theorem d_Ranking_compareSlots_1 : decode prog_8_method_12_code 1 = .ok (.getfield 28, 3) := by decide +kernel
theorem d_Ranking_compareSlots_4 : decode prog_8_method_12_code 4 = .ok (.iload_n 1, 1) := by decide +kernel
theorem d_Ranking_compareSlots_5 : decode prog_8_method_12_code 5 = .ok (.iaload, 1) := by decide +kernel
theorem d_Ranking_compareSlots_6 : decode prog_8_method_12_code 6 = .ok (.aload_n 0, 1) := by decide +kernel
theorem d_Ranking_compareSlots_7 : decode prog_8_method_12_code 7 = .ok (.getfield 28, 3) := by decide +kernel
theorem d_Ranking_compareSlots_10 : decode prog_8_method_12_code 10 = .ok (.iload_n 2, 1) := by decide +kernel
theorem d_Ranking_compareSlots_11 : decode prog_8_method_12_code 11 = .ok (.iaload, 1) := by decide +kernel
theorem d_Ranking_compareSlots_12 : decode prog_8_method_12_code 12 = .ok (.if_icmp .ne 19, 3) := by decide +kernel
theorem d_Ranking_compareSlots_15 : decode prog_8_method_12_code 15 = .ok (.aload_n 0, 1) := by decide +kernel
theorem d_Ranking_compareSlots_16 : decode prog_8_method_12_code 16 = .ok (.getfield 25, 3) := by decide +kernel
theorem d_Ranking_compareSlots_19 : decode prog_8_method_12_code 19 = .ok (.iload_n 1, 1) := by decide +kernel
theorem d_Ranking_compareSlots_20 : decode prog_8_method_12_code 20 = .ok (.aaload, 1) := by decide +kernel
theorem d_Ranking_compareSlots_21 : decode prog_8_method_12_code 21 = .ok (.aload_n 0, 1) := by decide +kernel
theorem d_Ranking_compareSlots_22 : decode prog_8_method_12_code 22 = .ok (.getfield 25, 3) := by decide +kernel
theorem d_Ranking_compareSlots_25 : decode prog_8_method_12_code 25 = .ok (.iload_n 2, 1) := by decide +kernel
theorem d_Ranking_compareSlots_26 : decode prog_8_method_12_code 26 = .ok (.aaload, 1) := by decide +kernel
theorem d_Ranking_compareSlots_27 : decode prog_8_method_12_code 27 = .ok (.invokestatic 134, 3) := by decide +kernel
theorem d_Ranking_compareSlots_30 : decode prog_8_method_12_code 30 = .ok (.ireturn, 1) := by decide +kernel
theorem d_Ranking_compareSlots_31 : decode prog_8_method_12_code 31 = .ok (.aload_n 0, 1) := by decide +kernel
theorem d_Ranking_compareSlots_32 : decode prog_8_method_12_code 32 = .ok (.getfield 25, 3) := by decide +kernel
theorem d_Ranking_compareSlots_35 : decode prog_8_method_12_code 35 = .ok (.iload_n 1, 1) := by decide +kernel
theorem d_Ranking_compareSlots_36 : decode prog_8_method_12_code 36 = .ok (.aaload, 1) := by decide +kernel
theorem d_Ranking_compareSlots_37 : decode prog_8_method_12_code 37 = .ok (.aload_n 0, 1) := by decide +kernel
theorem d_Ranking_compareSlots_38 : decode prog_8_method_12_code 38 = .ok (.getfield 40, 3) := by decide +kernel
theorem d_Ranking_compareSlots_41 : decode prog_8_method_12_code 41 = .ok (.invokestatic 113, 3) := by decide +kernel
theorem d_Ranking_compareSlots_44 : decode prog_8_method_12_code 44 = .ok (.aload_n 0, 1) := by decide +kernel
theorem d_Ranking_compareSlots_45 : decode prog_8_method_12_code 45 = .ok (.getfield 40, 3) := by decide +kernel
theorem d_Ranking_compareSlots_48 : decode prog_8_method_12_code 48 = .ok (.aload_n 0, 1) := by decide +kernel
theorem d_Ranking_compareSlots_49 : decode prog_8_method_12_code 49 = .ok (.getfield 28, 3) := by decide +kernel
theorem d_Ranking_compareSlots_52 : decode prog_8_method_12_code 52 = .ok (.iload_n 2, 1) := by decide +kernel
theorem d_Ranking_compareSlots_53 : decode prog_8_method_12_code 53 = .ok (.iaload, 1) := by decide +kernel
theorem d_Ranking_compareSlots_54 : decode prog_8_method_12_code 54 = .ok (.invokestatic 125, 3) := by decide +kernel
theorem d_Ranking_compareSlots_57 : decode prog_8_method_12_code 57 = .ok (.aload_n 0, 1) := by decide +kernel
theorem d_Ranking_compareSlots_58 : decode prog_8_method_12_code 58 = .ok (.getfield 25, 3) := by decide +kernel
theorem d_Ranking_compareSlots_61 : decode prog_8_method_12_code 61 = .ok (.iload_n 2, 1) := by decide +kernel
theorem d_Ranking_compareSlots_62 : decode prog_8_method_12_code 62 = .ok (.aaload, 1) := by decide +kernel
theorem d_Ranking_compareSlots_63 : decode prog_8_method_12_code 63 = .ok (.aload_n 0, 1) := by decide +kernel
theorem d_Ranking_compareSlots_64 : decode prog_8_method_12_code 64 = .ok (.getfield 43, 3) := by decide +kernel
theorem d_Ranking_compareSlots_67 : decode prog_8_method_12_code 67 = .ok (.invokestatic 113, 3) := by decide +kernel
theorem d_Ranking_compareSlots_70 : decode prog_8_method_12_code 70 = .ok (.aload_n 0, 1) := by decide +kernel
theorem d_Ranking_compareSlots_71 : decode prog_8_method_12_code 71 = .ok (.getfield 43, 3) := by decide +kernel
theorem d_Ranking_compareSlots_74 : decode prog_8_method_12_code 74 = .ok (.aload_n 0, 1) := by decide +kernel
theorem d_Ranking_compareSlots_75 : decode prog_8_method_12_code 75 = .ok (.getfield 28, 3) := by decide +kernel
theorem d_Ranking_compareSlots_78 : decode prog_8_method_12_code 78 = .ok (.iload_n 1, 1) := by decide +kernel
theorem d_Ranking_compareSlots_79 : decode prog_8_method_12_code 79 = .ok (.iaload, 1) := by decide +kernel
theorem d_Ranking_compareSlots_80 : decode prog_8_method_12_code 80 = .ok (.invokestatic 125, 3) := by decide +kernel
theorem d_Ranking_compareSlots_83 : decode prog_8_method_12_code 83 = .ok (.aload_n 0, 1) := by decide +kernel
theorem d_Ranking_compareSlots_84 : decode prog_8_method_12_code 84 = .ok (.getfield 40, 3) := by decide +kernel
theorem d_Ranking_compareSlots_87 : decode prog_8_method_12_code 87 = .ok (.aload_n 0, 1) := by decide +kernel
theorem d_Ranking_compareSlots_88 : decode prog_8_method_12_code 88 = .ok (.getfield 43, 3) := by decide +kernel
theorem d_Ranking_compareSlots_91 : decode prog_8_method_12_code 91 = .ok (.invokestatic 134, 3) := by decide +kernel
theorem d_Ranking_compareSlots_94 : decode prog_8_method_12_code 94 = .ok (.ireturn, 1) := by decide +kernel
noncomputable def M_Ranking_compareSlots (x1 : Int32) (x2 : Int32) (u : gSt) : Option ((Int32 × gSt)) :=
  gc (gIn x1 (gLen 32)) <| gc (gIn x2 (gLen 32)) <| if (u.2.2.1 32 (gIx x1)) = (u.2.2.1 32 (gIx x2)) then
    (gc (gIn x1 (gLen 31)) <| (gAR 31 (gIx x1)).bind fun r20 => gc (gIn x2 (gLen 31)) <| (gAR 31 (gIx x2)).bind fun r26 => (M_Wide_compare r20 r26 u).bind fun q27 =>
    some (q27.1, q27.2))
  else
    (gc (gIn x1 (gLen 31)) <| (gAR 31 (gIx x1)).bind fun r36 => (M_Wide_copy r36 36 u).bind fun q41 =>
    gc (gIn x2 (gLen 32)) <| (M_Wide_multiply 36 (q41.2.2.1 32 (gIx x2)) q41).bind fun q54 =>
    gc (gIn x2 (gLen 31)) <| (gAR 31 (gIx x2)).bind fun r62 => (M_Wide_copy r62 37 q54).bind fun q67 =>
    gc (gIn x1 (gLen 32)) <| (M_Wide_multiply 37 (q67.2.2.1 32 (gIx x1)) q67).bind fun q80 =>
    (M_Wide_compare 36 37 q80).bind fun q91 =>
    some (q91.1, q91.2))
set_option maxHeartbeats 4000000 in
set_option maxRecDepth 100000 in
theorem t_Ranking_compareSlots (C : gX "TermDesk$Ranking" prog_8_method_12_code 3 (some .int) 2 81 R cells slots cy D ρ A p s m args meth c) {x1 : Int32} {x2 : Int32} {u : gSt} {z : (Int32 × gSt)} (hM : M_Ranking_compareSlots x1 x2 u = some z) (hR : gRtI p l e R s m args below meth c Q H0 cells slots cy D ρ A prog_8_method_12_code z.1 z.2) : gAt p l e R s m args below meth c Q H0 cells slots cy D ρ A 3 0 [(0, .ref (ρ 27)), (1, .int x1), (2, .int x2)] [] u := by
  intro ls H locs hl hP hS
  have hx := C.1
  have hb := C.2.1
  unfold M_Ranking_compareSlots at hM
  refine lv_aload_n hx hb d_Ranking_compareSlots_0 rfl (lv_at hl 0 rfl) ?_
  refine g_getR (b := 32) C hP gl_Ranking_28 rfl rfl rfl d_Ranking_compareSlots_1 ?_
  refine lv_iload_n hx hb d_Ranking_compareSlots_4 rfl (lv_at hl 1 rfl) ?_
  obtain ⟨hi5, hM⟩ := gc_some hM
  refine g_iald C hP rfl hi5 d_Ranking_compareSlots_5 ?_
  refine lv_aload_n hx hb d_Ranking_compareSlots_6 rfl (lv_at hl 0 rfl) ?_
  refine g_getR (b := 32) C hP gl_Ranking_28 rfl rfl rfl d_Ranking_compareSlots_7 ?_
  refine lv_iload_n hx hb d_Ranking_compareSlots_10 rfl (lv_at hl 2 rfl) ?_
  obtain ⟨hi11, hM⟩ := gc_some hM
  refine g_iald C hP rfl hi11 d_Ranking_compareSlots_11 ?_
  refine lv_icmp_ne (tgt := 31) hx hb d_Ranking_compareSlots_12 (by decide) (fun hc12 => ?_) (fun hc12 => ?_)
  · replace hM := gi_f hc12 hM
    refine lv_aload_n hx hb d_Ranking_compareSlots_31 rfl (lv_at hl 0 rfl) ?_
    refine g_getR (b := 31) C hP gl_Ranking_25 rfl rfl rfl d_Ranking_compareSlots_32 ?_
    refine lv_iload_n hx hb d_Ranking_compareSlots_35 rfl (lv_at hl 1 rfl) ?_
    obtain ⟨hi36, hM⟩ := gc_some hM
    obtain ⟨r36, hr36, hM⟩ := gb_some hM
    refine g_aald C hP rfl hi36 hr36 d_Ranking_compareSlots_36 ?_
    refine lv_aload_n hx hb d_Ranking_compareSlots_37 rfl (lv_at hl 0 rfl) ?_
    refine g_getR (b := 36) C hP gl_Ranking_40 rfl rfl rfl d_Ranking_compareSlots_38 ?_
    obtain ⟨q41, hq41, hM⟩ := gb_some hM
    refine g_backV (g_runS (As := [.ref (ρ r36), .ref (ρ 36)]) C hP (c_Wide_copy C.2.2.2.2.2.2.2.2.1 hq41) gi_Wide_copy gm_Ranking_113 rfl (by decide) (by decide) hl.1 rfl (Nat.le_of_ble_eq_true rfl) d_Ranking_compareSlots_41) hS (fun H locs hP hS => ?_)
    refine lv_aload_n hx hb d_Ranking_compareSlots_44 rfl (lv_at hl 0 rfl) ?_
    refine g_getR (b := 36) C hP gl_Ranking_40 rfl rfl rfl d_Ranking_compareSlots_45 ?_
    refine lv_aload_n hx hb d_Ranking_compareSlots_48 rfl (lv_at hl 0 rfl) ?_
    refine g_getR (b := 32) C hP gl_Ranking_28 rfl rfl rfl d_Ranking_compareSlots_49 ?_
    refine lv_iload_n hx hb d_Ranking_compareSlots_52 rfl (lv_at hl 2 rfl) ?_
    obtain ⟨hi53, hM⟩ := gc_some hM
    refine g_iald C hP rfl hi53 d_Ranking_compareSlots_53 ?_
    obtain ⟨q54, hq54, hM⟩ := gb_some hM
    refine g_backV (g_runS (As := [.ref (ρ 36), .int (q41.2.2.1 32 (gIx x2))]) C hP (c_Wide_multiply C.2.2.2.2.2.2.2.2.1 hq54) gi_Wide_multiply gm_Ranking_125 rfl (by decide) (by decide) hl.1 rfl (Nat.le_of_ble_eq_true rfl) d_Ranking_compareSlots_54) hS (fun H locs hP hS => ?_)
    refine lv_aload_n hx hb d_Ranking_compareSlots_57 rfl (lv_at hl 0 rfl) ?_
    refine g_getR (b := 31) C hP gl_Ranking_25 rfl rfl rfl d_Ranking_compareSlots_58 ?_
    refine lv_iload_n hx hb d_Ranking_compareSlots_61 rfl (lv_at hl 2 rfl) ?_
    obtain ⟨hi62, hM⟩ := gc_some hM
    obtain ⟨r62, hr62, hM⟩ := gb_some hM
    refine g_aald C hP rfl hi62 hr62 d_Ranking_compareSlots_62 ?_
    refine lv_aload_n hx hb d_Ranking_compareSlots_63 rfl (lv_at hl 0 rfl) ?_
    refine g_getR (b := 37) C hP gl_Ranking_43 rfl rfl rfl d_Ranking_compareSlots_64 ?_
    obtain ⟨q67, hq67, hM⟩ := gb_some hM
    refine g_backV (g_runS (As := [.ref (ρ r62), .ref (ρ 37)]) C hP (c_Wide_copy C.2.2.2.2.2.2.2.2.1 hq67) gi_Wide_copy gm_Ranking_113 rfl (by decide) (by decide) hl.1 rfl (Nat.le_of_ble_eq_true rfl) d_Ranking_compareSlots_67) hS (fun H locs hP hS => ?_)
    refine lv_aload_n hx hb d_Ranking_compareSlots_70 rfl (lv_at hl 0 rfl) ?_
    refine g_getR (b := 37) C hP gl_Ranking_43 rfl rfl rfl d_Ranking_compareSlots_71 ?_
    refine lv_aload_n hx hb d_Ranking_compareSlots_74 rfl (lv_at hl 0 rfl) ?_
    refine g_getR (b := 32) C hP gl_Ranking_28 rfl rfl rfl d_Ranking_compareSlots_75 ?_
    refine lv_iload_n hx hb d_Ranking_compareSlots_78 rfl (lv_at hl 1 rfl) ?_
    obtain ⟨hi79, hM⟩ := gc_some hM
    refine g_iald C hP rfl hi79 d_Ranking_compareSlots_79 ?_
    obtain ⟨q80, hq80, hM⟩ := gb_some hM
    refine g_backV (g_runS (As := [.ref (ρ 37), .int (q67.2.2.1 32 (gIx x1))]) C hP (c_Wide_multiply C.2.2.2.2.2.2.2.2.1 hq80) gi_Wide_multiply gm_Ranking_125 rfl (by decide) (by decide) hl.1 rfl (Nat.le_of_ble_eq_true rfl) d_Ranking_compareSlots_80) hS (fun H locs hP hS => ?_)
    refine lv_aload_n hx hb d_Ranking_compareSlots_83 rfl (lv_at hl 0 rfl) ?_
    refine g_getR (b := 36) C hP gl_Ranking_40 rfl rfl rfl d_Ranking_compareSlots_84 ?_
    refine lv_aload_n hx hb d_Ranking_compareSlots_87 rfl (lv_at hl 0 rfl) ?_
    refine g_getR (b := 37) C hP gl_Ranking_43 rfl rfl rfl d_Ranking_compareSlots_88 ?_
    obtain ⟨q91, hq91, hM⟩ := gb_some hM
    refine g_backI (g_runS (As := [.ref (ρ 36), .ref (ρ 37)]) C hP (c_Wide_compare C.2.2.2.2.2.2.2.2.1 hq91) gi_Wide_compare gm_Ranking_134 rfl (by decide) (by decide) hl.1 rfl (Nat.le_of_ble_eq_true rfl) d_Ranking_compareSlots_91) hS (fun H locs hP hS => ?_)
    obtain rfl := Option.some.inj hM
    exact hR _ ls H locs d_Ranking_compareSlots_94 hP hS
  · replace hM := gi_t hc12 hM
    refine lv_aload_n hx hb d_Ranking_compareSlots_15 rfl (lv_at hl 0 rfl) ?_
    refine g_getR (b := 31) C hP gl_Ranking_25 rfl rfl rfl d_Ranking_compareSlots_16 ?_
    refine lv_iload_n hx hb d_Ranking_compareSlots_19 rfl (lv_at hl 1 rfl) ?_
    obtain ⟨hi20, hM⟩ := gc_some hM
    obtain ⟨r20, hr20, hM⟩ := gb_some hM
    refine g_aald C hP rfl hi20 hr20 d_Ranking_compareSlots_20 ?_
    refine lv_aload_n hx hb d_Ranking_compareSlots_21 rfl (lv_at hl 0 rfl) ?_
    refine g_getR (b := 31) C hP gl_Ranking_25 rfl rfl rfl d_Ranking_compareSlots_22 ?_
    refine lv_iload_n hx hb d_Ranking_compareSlots_25 rfl (lv_at hl 2 rfl) ?_
    obtain ⟨hi26, hM⟩ := gc_some hM
    obtain ⟨r26, hr26, hM⟩ := gb_some hM
    refine g_aald C hP rfl hi26 hr26 d_Ranking_compareSlots_26 ?_
    obtain ⟨q27, hq27, hM⟩ := gb_some hM
    refine g_backI (g_runS (As := [.ref (ρ r20), .ref (ρ r26)]) C hP (c_Wide_compare C.2.2.2.2.2.2.2.2.1 hq27) gi_Wide_compare gm_Ranking_134 rfl (by decide) (by decide) hl.1 rfl (Nat.le_of_ble_eq_true rfl) d_Ranking_compareSlots_27) hS (fun H locs hP hS => ?_)
    obtain rfl := Option.some.inj hM
    exact hR _ ls H locs d_Ranking_compareSlots_30 hP hS
theorem c_Ranking_compareSlots {l : Launch} {cy : Nat → ClassId} {D : va_G} {ρ : Nat → Nat} {A : Nat → Prop} (hD : gD ρ A) {x1 : Int32} {x2 : Int32} {u : gSt} {z : (Int32 × gSt)} (hM : M_Ranking_compareSlots x1 x2 u = some z) : gCtI l y_Ranking_compareSlots prog_8_method_12_code 3 (some .int) 2 81 cy D ρ A [.ref (ρ 27), .int x1, .int x2] u z.1 z.2 :=
  g_met (by decide) hD (Nat.le_of_ble_eq_true rfl) (fun p e s m below meth c ls X hl hP => t_Ranking_compareSlots X hM (fun pc ls H locs hd hP hS => g_iret X hP hS hd) ls _ [] hl hP va_S.rf)
end
section
variable {p : Program} {l : Launch} {e : Env} {R : Room} {s : State} {m : MethodId} {args : Array Value} {below : List Frame} {meth : Method} {c : Code} {Q : State → Prop} {H0 : Heap} {cells slots : Nat} {cy : Nat → ClassId} {D : va_G} {ρ : Nat → Nat} {A : Nat → Prop}
def y_Ranking_sort : MethodName := ⟨"TermDesk$Ranking", "sort", "([III)V"⟩
theorem gi_Ranking_sort : gMi y_Ranking_sort prog_8_method_15_code 9 none 3 6 := ⟨(gWs_at 918 (by decide +kernel) (by decide +kernel)), (gWs_at 917 (by decide +kernel) (by decide +kernel)), (gWs_at 49 (by decide +kernel) (by decide +kernel)), (gWs_at 123 (by decide +kernel) (by decide +kernel)), ⟨by decide +kernel, by decide +kernel, by decide +kernel⟩, _, _, rfl⟩
theorem gm_Ranking_75 : gMk "TermDesk$Ranking" 75 y_Ranking_sort := Or.inl (gWs_at 915 (by decide +kernel) (by decide +kernel))
theorem d_Ranking_sort_0 : decode prog_8_method_15_code 0 = .ok (.iconst 1, 1) := by decide +kernel
theorem d_Ranking_sort_1 : decode prog_8_method_15_code 1 = .ok (.istore 4, 2) := by decide +kernel
theorem d_Ranking_sort_3 : decode prog_8_method_15_code 3 = .ok (.iload 4, 2) := by decide +kernel
theorem d_Ranking_sort_5 : decode prog_8_method_15_code 5 = .ok (.iload_n 2, 1) := by decide +kernel
theorem d_Ranking_sort_6 : decode prog_8_method_15_code 6 = .ok (.if_icmp .ge 97, 3) := by decide +kernel
theorem d_Ranking_sort_9 : decode prog_8_method_15_code 9 = .ok (.aload_n 1, 1) := by decide +kernel
theorem d_Ranking_sort_10 : decode prog_8_method_15_code 10 = .ok (.iload 4, 2) := by decide +kernel
theorem d_Ranking_sort_12 : decode prog_8_method_15_code 12 = .ok (.iaload, 1) := by decide +kernel
theorem d_Ranking_sort_13 : decode prog_8_method_15_code 13 = .ok (.istore 5, 2) := by decide +kernel
theorem d_Ranking_sort_15 : decode prog_8_method_15_code 15 = .ok (.iconst 0, 1) := by decide +kernel
theorem d_Ranking_sort_16 : decode prog_8_method_15_code 16 = .ok (.istore 6, 2) := by decide +kernel
theorem d_Ranking_sort_18 : decode prog_8_method_15_code 18 = .ok (.iload 4, 2) := by decide +kernel
theorem d_Ranking_sort_20 : decode prog_8_method_15_code 20 = .ok (.istore 7, 2) := by decide +kernel
theorem d_Ranking_sort_22 : decode prog_8_method_15_code 22 = .ok (.iload 6, 2) := by decide +kernel
theorem d_Ranking_sort_24 : decode prog_8_method_15_code 24 = .ok (.iload 7, 2) := by decide +kernel
theorem d_Ranking_sort_26 : decode prog_8_method_15_code 26 = .ok (.if_icmp .ge 49, 3) := by decide +kernel
theorem d_Ranking_sort_29 : decode prog_8_method_15_code 29 = .ok (.iload 6, 2) := by decide +kernel
theorem d_Ranking_sort_31 : decode prog_8_method_15_code 31 = .ok (.iload 7, 2) := by decide +kernel
theorem d_Ranking_sort_33 : decode prog_8_method_15_code 33 = .ok (.iadd, 1) := by decide +kernel
theorem d_Ranking_sort_34 : decode prog_8_method_15_code 34 = .ok (.iconst 2, 1) := by decide +kernel
theorem d_Ranking_sort_35 : decode prog_8_method_15_code 35 = .ok (.idiv, 1) := by decide +kernel
theorem d_Ranking_sort_36 : decode prog_8_method_15_code 36 = .ok (.istore 8, 2) := by decide +kernel
theorem d_Ranking_sort_38 : decode prog_8_method_15_code 38 = .ok (.aload_n 0, 1) := by decide +kernel
theorem d_Ranking_sort_39 : decode prog_8_method_15_code 39 = .ok (.iload_n 3, 1) := by decide +kernel
theorem d_Ranking_sort_40 : decode prog_8_method_15_code 40 = .ok (.iload 5, 2) := by decide +kernel
theorem d_Ranking_sort_42 : decode prog_8_method_15_code 42 = .ok (.invokestatic 78, 3) := by decide +kernel
theorem d_Ranking_sort_45 : decode prog_8_method_15_code 45 = .ok (.iload_n 3, 1) := by decide +kernel
theorem d_Ranking_sort_46 : decode prog_8_method_15_code 46 = .ok (.aload_n 1, 1) := by decide +kernel
theorem d_Ranking_sort_47 : decode prog_8_method_15_code 47 = .ok (.iload 8, 2) := by decide +kernel
theorem d_Ranking_sort_49 : decode prog_8_method_15_code 49 = .ok (.iaload, 1) := by decide +kernel
theorem d_Ranking_sort_50 : decode prog_8_method_15_code 50 = .ok (.invokestatic 78, 3) := by decide +kernel
theorem d_Ranking_sort_53 : decode prog_8_method_15_code 53 = .ok (.invokevirtual 138, 3) := by decide +kernel
theorem d_Ranking_sort_56 : decode prog_8_method_15_code 56 = .ok (.ifCond .ge 10, 3) := by decide +kernel
theorem d_Ranking_sort_59 : decode prog_8_method_15_code 59 = .ok (.iload 8, 2) := by decide +kernel
theorem d_Ranking_sort_61 : decode prog_8_method_15_code 61 = .ok (.istore 7, 2) := by decide +kernel
theorem d_Ranking_sort_63 : decode prog_8_method_15_code 63 = .ok (.goto 9, 3) := by decide +kernel
theorem d_Ranking_sort_66 : decode prog_8_method_15_code 66 = .ok (.iload 8, 2) := by decide +kernel
theorem d_Ranking_sort_68 : decode prog_8_method_15_code 68 = .ok (.iconst 1, 1) := by decide +kernel
theorem d_Ranking_sort_69 : decode prog_8_method_15_code 69 = .ok (.iadd, 1) := by decide +kernel
theorem d_Ranking_sort_70 : decode prog_8_method_15_code 70 = .ok (.istore 6, 2) := by decide +kernel
theorem d_Ranking_sort_72 : decode prog_8_method_15_code 72 = .ok (.goto (-50), 3) := by decide +kernel
theorem d_Ranking_sort_75 : decode prog_8_method_15_code 75 = .ok (.aload_n 1, 1) := by decide +kernel
theorem d_Ranking_sort_76 : decode prog_8_method_15_code 76 = .ok (.iload 6, 2) := by decide +kernel
theorem d_Ranking_sort_78 : decode prog_8_method_15_code 78 = .ok (.aload_n 1, 1) := by decide +kernel
theorem d_Ranking_sort_79 : decode prog_8_method_15_code 79 = .ok (.iload 6, 2) := by decide +kernel
theorem d_Ranking_sort_81 : decode prog_8_method_15_code 81 = .ok (.iconst 1, 1) := by decide +kernel
theorem d_Ranking_sort_82 : decode prog_8_method_15_code 82 = .ok (.iadd, 1) := by decide +kernel
theorem d_Ranking_sort_83 : decode prog_8_method_15_code 83 = .ok (.iload 4, 2) := by decide +kernel
theorem d_Ranking_sort_85 : decode prog_8_method_15_code 85 = .ok (.iload 6, 2) := by decide +kernel
theorem d_Ranking_sort_87 : decode prog_8_method_15_code 87 = .ok (.isub, 1) := by decide +kernel
theorem d_Ranking_sort_88 : decode prog_8_method_15_code 88 = .ok (.invokestatic 149, 3) := by decide +kernel
theorem d_Ranking_sort_91 : decode prog_8_method_15_code 91 = .ok (.aload_n 1, 1) := by decide +kernel
theorem d_Ranking_sort_92 : decode prog_8_method_15_code 92 = .ok (.iload 6, 2) := by decide +kernel
theorem d_Ranking_sort_94 : decode prog_8_method_15_code 94 = .ok (.iload 5, 2) := by decide +kernel
theorem d_Ranking_sort_96 : decode prog_8_method_15_code 96 = .ok (.iastore, 1) := by decide +kernel
theorem d_Ranking_sort_97 : decode prog_8_method_15_code 97 = .ok (.iinc 4 1, 3) := by decide +kernel
theorem d_Ranking_sort_100 : decode prog_8_method_15_code 100 = .ok (.goto (-97), 3) := by decide +kernel
theorem d_Ranking_sort_103 : decode prog_8_method_15_code 103 = .ok (.return_, 1) := by decide +kernel
noncomputable def M_Ranking_sort_b72 (a1 : Nat) (x2 : Int32) (x3 : Int32) (x4 : Int32) (x5 : Int32) (x6 : Int32) (x7 : Int32) (u : gSt) : Option ((Nat × Int32 × Int32 × Int32 × Int32 × Int32 × Int32 × gSt) ⊕ ((Nat × Int32 × Int32 × Int32 × Int32 × Int32 × gSt))) :=
  some (.inl (a1, x2, x3, x4, x5, x6, x7, u))
set_option maxHeartbeats 4000000 in
set_option maxRecDepth 100000 in
theorem t_Ranking_sort_b72 (C : gX "TermDesk$Ranking" prog_8_method_15_code 9 none 3 103 R cells slots cy D ρ A p s m args meth c) {a1 : Nat} {x2 : Int32} {x3 : Int32} {x4 : Int32} {x5 : Int32} {x6 : Int32} {x7 : Int32} {u : gSt} {z : (Nat × Int32 × Int32 × Int32 × Int32 × Int32 × Int32 × gSt) ⊕ ((Nat × Int32 × Int32 × Int32 × Int32 × Int32 × gSt))} (hM : M_Ranking_sort_b72 a1 x2 x3 x4 x5 x6 x7 u = some z) (hN : ∀ a1' x2' x3' x4' x5' x6' x7' u', z = .inl (a1', x2', x3', x4', x5', x6', x7', u') → gAt p l e R s m args below meth c Q H0 cells slots cy D ρ A 9 22 [(0, .ref (ρ 27)), (1, .ref (ρ (a1'))), (2, .int (x2')), (3, .int (x3')), (4, .int (x4')), (5, .int (x5')), (6, .int (x6')), (7, .int (x7'))] [] (u')) (hE0 : ∀ a1' x2' x3' x4' x5' x6' u', z = .inr (a1', x2', x3', x4', x5', x6', u') → gAt p l e R s m args below meth c Q H0 cells slots cy D ρ A 9 75 [(0, .ref (ρ 27)), (1, .ref (ρ (a1'))), (2, .int (x2')), (3, .int (x3')), (4, .int (x4')), (5, .int (x5')), (6, .int (x6'))] [] (u')) : gAt p l e R s m args below meth c Q H0 cells slots cy D ρ A 9 72 [(0, .ref (ρ 27)), (1, .ref (ρ a1)), (2, .int x2), (3, .int x3), (4, .int x4), (5, .int x5), (6, .int x6), (7, .int x7)] [] u := by
  intro ls H locs hl hP hS
  have hx := C.1
  have hb := C.2.1
  unfold M_Ranking_sort_b72 at hM
  refine lv_goto (tgt := 22) hx hb d_Ranking_sort_72 (by decide) ?_
  exact hN _ _ _ _ _ _ _ _ (Option.some.inj hM).symm ls H locs (lv_sub hl [0, 1, 2, 3, 4, 5, 6, 7] rfl) hP hS
noncomputable def M_Ranking_sort_b22 (a1 : Nat) (x2 : Int32) (x3 : Int32) (x4 : Int32) (x5 : Int32) (x6 : Int32) (x7 : Int32) (u : gSt) : Option ((Nat × Int32 × Int32 × Int32 × Int32 × Int32 × Int32 × gSt) ⊕ ((Nat × Int32 × Int32 × Int32 × Int32 × Int32 × gSt))) :=
  if x7 ≤ x6 then
    (some (.inr (a1, x2, x3, x4, x5, x6, u)))
  else
    ((M_Ranking_slot x3 x5 u).bind fun q42 =>
    gc (gK a1 == 22) <| gc (gIn ((x6 + x7) / (2 : Int32)) (gLen a1)) <| (M_Ranking_slot x3 (q42.2.2.2.1 a1 (gIx ((x6 + x7) / (2 : Int32)))) q42.2).bind fun q50 =>
    (M_Ranking_compareSlots q42.1 q50.1 q50.2).bind fun q53 =>
    if (0 : Int32) ≤ q53.1 then
      (M_Ranking_sort_b72 a1 x2 x3 x4 x5 (((x6 + x7) / (2 : Int32)) + (1 : Int32)) x7 q53.2)
    else
      (M_Ranking_sort_b72 a1 x2 x3 x4 x5 x6 ((x6 + x7) / (2 : Int32)) q53.2))
set_option maxHeartbeats 4000000 in
set_option maxRecDepth 100000 in
theorem t_Ranking_sort_b22 (C : gX "TermDesk$Ranking" prog_8_method_15_code 9 none 3 103 R cells slots cy D ρ A p s m args meth c) {a1 : Nat} {x2 : Int32} {x3 : Int32} {x4 : Int32} {x5 : Int32} {x6 : Int32} {x7 : Int32} {u : gSt} {z : (Nat × Int32 × Int32 × Int32 × Int32 × Int32 × Int32 × gSt) ⊕ ((Nat × Int32 × Int32 × Int32 × Int32 × Int32 × gSt))} (hM : M_Ranking_sort_b22 a1 x2 x3 x4 x5 x6 x7 u = some z) (hN : ∀ a1' x2' x3' x4' x5' x6' x7' u', z = .inl (a1', x2', x3', x4', x5', x6', x7', u') → gAt p l e R s m args below meth c Q H0 cells slots cy D ρ A 9 22 [(0, .ref (ρ 27)), (1, .ref (ρ (a1'))), (2, .int (x2')), (3, .int (x3')), (4, .int (x4')), (5, .int (x5')), (6, .int (x6')), (7, .int (x7'))] [] (u')) (hE0 : ∀ a1' x2' x3' x4' x5' x6' u', z = .inr (a1', x2', x3', x4', x5', x6', u') → gAt p l e R s m args below meth c Q H0 cells slots cy D ρ A 9 75 [(0, .ref (ρ 27)), (1, .ref (ρ (a1'))), (2, .int (x2')), (3, .int (x3')), (4, .int (x4')), (5, .int (x5')), (6, .int (x6'))] [] (u')) : gAt p l e R s m args below meth c Q H0 cells slots cy D ρ A 9 22 [(0, .ref (ρ 27)), (1, .ref (ρ a1)), (2, .int x2), (3, .int x3), (4, .int x4), (5, .int x5), (6, .int x6), (7, .int x7)] [] u := by
  intro ls H locs hl hP hS
  have hx := C.1
  have hb := C.2.1
  unfold M_Ranking_sort_b22 at hM
  refine lv_iload hx hb d_Ranking_sort_22 (lv_at hl 6 rfl) ?_
  refine lv_iload hx hb d_Ranking_sort_24 (lv_at hl 7 rfl) ?_
  refine lv_icmp_ge (tgt := 75) hx hb d_Ranking_sort_26 (by decide) (fun hc26 => ?_) (fun hc26 => ?_)
  · replace hM := gi_t hc26 hM
    exact hE0 _ _ _ _ _ _ _ (Option.some.inj hM).symm ls H locs (lv_sub hl [0, 1, 2, 3, 4, 5, 6] rfl) hP hS
  · replace hM := gi_f hc26 hM
    refine lv_iload hx hb d_Ranking_sort_29 (lv_at hl 6 rfl) ?_
    refine lv_iload hx hb d_Ranking_sort_31 (lv_at hl 7 rfl) ?_
    refine lv_iadd hx hb d_Ranking_sort_33 ?_
    refine lv_iconst (v := (2 : Int32)) hx hb d_Ranking_sort_34 (by decide) ?_
    refine lv_idiv hx hb d_Ranking_sort_35 (by decide) ?_
    refine lv_istore (lv' := [(8, .int ((x6 + x7) / (2 : Int32))), (0, .ref (ρ 27)), (1, .ref (ρ a1)), (2, .int x2), (3, .int x3), (4, .int x4), (5, .int x5), (6, .int x6), (7, .int x7)]) hx hb d_Ranking_sort_36 hl (by decide) rfl (fun ls hl => ?_)
    refine lv_aload_n hx hb d_Ranking_sort_38 rfl (lv_at hl 1 rfl) ?_
    refine lv_iload_n hx hb d_Ranking_sort_39 rfl (lv_at hl 4 rfl) ?_
    refine lv_iload hx hb d_Ranking_sort_40 (lv_at hl 6 rfl) ?_
    obtain ⟨q42, hq42, hM⟩ := gb_some hM
    refine g_backI (g_runS (As := [.int x3, .int x5]) C hP (c_Ranking_slot C.2.2.2.2.2.2.2.2.1 hq42) gi_Ranking_slot gm_Ranking_78 rfl (by decide) (by decide) hl.1 rfl (Nat.le_of_ble_eq_true rfl) d_Ranking_sort_42) hS (fun H locs hP hS => ?_)
    refine lv_iload_n hx hb d_Ranking_sort_45 rfl (lv_at hl 4 rfl) ?_
    refine lv_aload_n hx hb d_Ranking_sort_46 rfl (lv_at hl 2 rfl) ?_
    refine lv_iload hx hb d_Ranking_sort_47 (lv_at hl 0 rfl) ?_
    obtain ⟨h49, hM⟩ := gc_some hM
    obtain ⟨hi49, hM⟩ := gc_some hM
    refine g_iald C hP (eq_of_beq h49) hi49 d_Ranking_sort_49 ?_
    obtain ⟨q50, hq50, hM⟩ := gb_some hM
    refine g_backI (g_runS (As := [.int x3, .int (q42.2.2.2.1 a1 (gIx ((x6 + x7) / (2 : Int32))))]) C hP (c_Ranking_slot C.2.2.2.2.2.2.2.2.1 hq50) gi_Ranking_slot gm_Ranking_78 rfl (by decide) (by decide) hl.1 rfl (Nat.le_of_ble_eq_true rfl) d_Ranking_sort_50) hS (fun H locs hP hS => ?_)
    obtain ⟨q53, hq53, hM⟩ := gb_some hM
    refine g_backI (g_runV (As := [.int q42.1, .int q50.1]) C hP (c_Ranking_compareSlots C.2.2.2.2.2.2.2.2.1 hq53) gi_Ranking_compareSlots gm_Ranking_138 rfl rfl (by decide) (by decide) hl.1 rfl (Nat.le_of_ble_eq_true rfl) d_Ranking_sort_53) hS (fun H locs hP hS => ?_)
    refine lv_if_ge (tgt := 66) hx hb d_Ranking_sort_56 (by decide) (fun hc56 => ?_) (fun hc56 => ?_)
    · replace hM := gi_t hc56 hM
      refine lv_iload hx hb d_Ranking_sort_66 (lv_at hl 0 rfl) ?_
      refine lv_iconst (v := (1 : Int32)) hx hb d_Ranking_sort_68 (by decide) ?_
      refine lv_iadd hx hb d_Ranking_sort_69 ?_
      refine lv_istore (lv' := [(6, .int (((x6 + x7) / (2 : Int32)) + (1 : Int32))), (8, .int ((x6 + x7) / (2 : Int32))), (0, .ref (ρ 27)), (1, .ref (ρ a1)), (2, .int x2), (3, .int x3), (4, .int x4), (5, .int x5), (7, .int x7)]) hx hb d_Ranking_sort_70 hl (by decide) rfl (fun ls hl => ?_)
      exact t_Ranking_sort_b72 C hM hN hE0 ls H locs (lv_sub hl [2, 3, 4, 5, 6, 7, 0, 8] rfl) hP hS
    · replace hM := gi_f hc56 hM
      refine lv_iload hx hb d_Ranking_sort_59 (lv_at hl 0 rfl) ?_
      refine lv_istore (lv' := [(7, .int ((x6 + x7) / (2 : Int32))), (8, .int ((x6 + x7) / (2 : Int32))), (0, .ref (ρ 27)), (1, .ref (ρ a1)), (2, .int x2), (3, .int x3), (4, .int x4), (5, .int x5), (6, .int x6)]) hx hb d_Ranking_sort_61 hl (by decide) rfl (fun ls hl => ?_)
      refine lv_goto (tgt := 72) hx hb d_Ranking_sort_63 (by decide) ?_
      exact t_Ranking_sort_b72 C hM hN hE0 ls H locs (lv_sub hl [2, 3, 4, 5, 6, 7, 8, 0] rfl) hP hS
noncomputable def M_Ranking_sort_L22 : (Nat × Int32 × Int32 × Int32 × Int32 × Int32 × Int32 × gSt) → Option ((Nat × Int32 × Int32 × Int32 × Int32 × Int32 × Int32 × gSt) ⊕ ((Nat × Int32 × Int32 × Int32 × Int32 × Int32 × gSt))) := fun x => M_Ranking_sort_b22 x.1 x.2.1 x.2.2.1 x.2.2.2.1 x.2.2.2.2.1 x.2.2.2.2.2.1 x.2.2.2.2.2.2.1 x.2.2.2.2.2.2.2
theorem t_Ranking_sort_L22 (C : gX "TermDesk$Ranking" prog_8_method_15_code 9 none 3 103 R cells slots cy D ρ A p s m args meth c) {a1 : Nat} {x2 : Int32} {x3 : Int32} {x4 : Int32} {x5 : Int32} {x6 : Int32} {x7 : Int32} {u : gSt} {yy : (Nat × Int32 × Int32 × Int32 × Int32 × Int32 × gSt)} (hL : gLp M_Ranking_sort_L22 (a1, x2, x3, x4, x5, x6, x7, u) = some yy) (hE0 : (∀ y', yy = y' → gAt p l e R s m args below meth c Q H0 cells slots cy D ρ A 9 75 [(0, .ref (ρ 27)), (1, .ref (ρ (y'.1))), (2, .int (y'.2.1)), (3, .int (y'.2.2.1)), (4, .int (y'.2.2.2.1)), (5, .int (y'.2.2.2.2.1)), (6, .int (y'.2.2.2.2.2.1))] [] (y'.2.2.2.2.2.2))) : gAt p l e R s m args below meth c Q H0 cells slots cy D ρ A 9 22 [(0, .ref (ρ 27)), (1, .ref (ρ a1)), (2, .int x2), (3, .int x3), (4, .int x4), (5, .int x5), (6, .int x6), (7, .int x7)] [] u :=
  g_loop (f := M_Ranking_sort_L22) (P := fun x => gAt p l e R s m args below meth c Q H0 cells slots cy D ρ A 9 22 [(0, .ref (ρ 27)), (1, .ref (ρ x.1)), (2, .int x.2.1), (3, .int x.2.2.1), (4, .int x.2.2.2.1), (5, .int x.2.2.2.2.1), (6, .int x.2.2.2.2.2.1), (7, .int x.2.2.2.2.2.2.1)] [] x.2.2.2.2.2.2.2) (E := fun yy => (∀ y', yy = y' → gAt p l e R s m args below meth c Q H0 cells slots cy D ρ A 9 75 [(0, .ref (ρ 27)), (1, .ref (ρ (y'.1))), (2, .int (y'.2.1)), (3, .int (y'.2.2.1)), (4, .int (y'.2.2.2.1)), (5, .int (y'.2.2.2.2.1)), (6, .int (y'.2.2.2.2.2.1))] [] (y'.2.2.2.2.2.2))) (fun x z hf hN hE => t_Ranking_sort_b22 C hf (fun a1' x2' x3' x4' x5' x6' x7' u' h => hN (a1', x2', x3', x4', x5', x6', x7', u') h) (fun a1' x2' x3' x4' x5' x6' u' h => (hE _ h) (a1', x2', x3', x4', x5', x6', u') rfl)) hL hE0
noncomputable def M_Ranking_sort_b3 (a1 : Nat) (x2 : Int32) (x3 : Int32) (x4 : Int32) (u : gSt) : Option ((Nat × Int32 × Int32 × Int32 × gSt) ⊕ ((gSt))) :=
  if x2 ≤ x4 then
    (some (.inr u))
  else
    (gc (gK a1 == 22) <| gc (gIn x4 (gLen a1)) <| (gLp M_Ranking_sort_L22 (a1, x2, x3, x4, u.2.2.1 a1 (gIx x4), (0 : Int32), x4, u)).bind fun y22 =>
    gc (gK y22.1 == 22) <| gc (gK y22.1 == 22) <| gc (gCpOk y22.1 y22.2.2.2.2.2.1 y22.1 (y22.2.2.2.2.2.1 + (1 : Int32)) (y22.2.2.2.1 - y22.2.2.2.2.2.1)) <| (some (gsC y22.2.2.2.2.2.2 y22.1 y22.2.2.2.2.2.1 y22.1 (y22.2.2.2.2.2.1 + (1 : Int32)) (y22.2.2.2.1 - y22.2.2.2.2.2.1))).bind fun u88 =>
    gc (gK y22.1 == 22) <| gc (gIn y22.2.2.2.2.2.1 (gLen y22.1)) <| (some (gsA u88 y22.1 (gIx y22.2.2.2.2.2.1) y22.2.2.2.2.1)).bind fun u96 =>
    some (.inl (y22.1, y22.2.1, y22.2.2.1, y22.2.2.2.1 + (1 : Int32), u96)))
set_option maxHeartbeats 4000000 in
set_option maxRecDepth 100000 in
theorem t_Ranking_sort_b3 (C : gX "TermDesk$Ranking" prog_8_method_15_code 9 none 3 103 R cells slots cy D ρ A p s m args meth c) {a1 : Nat} {x2 : Int32} {x3 : Int32} {x4 : Int32} {u : gSt} {z : (Nat × Int32 × Int32 × Int32 × gSt) ⊕ ((gSt))} (hM : M_Ranking_sort_b3 a1 x2 x3 x4 u = some z) (hN : ∀ a1' x2' x3' x4' u', z = .inl (a1', x2', x3', x4', u') → gAt p l e R s m args below meth c Q H0 cells slots cy D ρ A 9 3 [(0, .ref (ρ 27)), (1, .ref (ρ (a1'))), (2, .int (x2')), (3, .int (x3')), (4, .int (x4'))] [] (u')) (hE0 : ∀ u', z = .inr u' → gAt p l e R s m args below meth c Q H0 cells slots cy D ρ A 9 103 [] [] (u')) : gAt p l e R s m args below meth c Q H0 cells slots cy D ρ A 9 3 [(0, .ref (ρ 27)), (1, .ref (ρ a1)), (2, .int x2), (3, .int x3), (4, .int x4)] [] u := by
  intro ls H locs hl hP hS
  have hx := C.1
  have hb := C.2.1
  unfold M_Ranking_sort_b3 at hM
  refine lv_iload hx hb d_Ranking_sort_3 (lv_at hl 4 rfl) ?_
  refine lv_iload_n hx hb d_Ranking_sort_5 rfl (lv_at hl 2 rfl) ?_
  refine lv_icmp_ge (tgt := 103) hx hb d_Ranking_sort_6 (by decide) (fun hc6 => ?_) (fun hc6 => ?_)
  · replace hM := gi_t hc6 hM
    exact hE0 _ (Option.some.inj hM).symm ls H locs (lv_sub hl [] rfl) hP hS
  · replace hM := gi_f hc6 hM
    refine lv_aload_n hx hb d_Ranking_sort_9 rfl (lv_at hl 1 rfl) ?_
    refine lv_iload hx hb d_Ranking_sort_10 (lv_at hl 4 rfl) ?_
    obtain ⟨h12, hM⟩ := gc_some hM
    obtain ⟨hi12, hM⟩ := gc_some hM
    refine g_iald C hP (eq_of_beq h12) hi12 d_Ranking_sort_12 ?_
    refine lv_istore (lv' := [(5, .int (u.2.2.1 a1 (gIx x4))), (0, .ref (ρ 27)), (1, .ref (ρ a1)), (2, .int x2), (3, .int x3), (4, .int x4)]) hx hb d_Ranking_sort_13 hl (by decide) rfl (fun ls hl => ?_)
    refine lv_iconst (v := (0 : Int32)) hx hb d_Ranking_sort_15 (by decide) ?_
    refine lv_istore (lv' := [(6, .int (0 : Int32)), (5, .int (u.2.2.1 a1 (gIx x4))), (0, .ref (ρ 27)), (1, .ref (ρ a1)), (2, .int x2), (3, .int x3), (4, .int x4)]) hx hb d_Ranking_sort_16 hl (by decide) rfl (fun ls hl => ?_)
    refine lv_iload hx hb d_Ranking_sort_18 (lv_at hl 6 rfl) ?_
    refine lv_istore (lv' := [(7, .int x4), (6, .int (0 : Int32)), (5, .int (u.2.2.1 a1 (gIx x4))), (0, .ref (ρ 27)), (1, .ref (ρ a1)), (2, .int x2), (3, .int x3), (4, .int x4)]) hx hb d_Ranking_sort_20 hl (by decide) rfl (fun ls hl => ?_)
    obtain ⟨y22, hL22, hM⟩ := gb_some hM
    refine t_Ranking_sort_L22 C hL22 (fun y22_0 hy => ?_) ls H locs (lv_sub hl [3, 4, 5, 6, 7, 2, 1, 0] rfl) hP hS
    · subst hy
      intro ls H locs hl hP hS
      refine lv_aload_n hx hb d_Ranking_sort_75 rfl (lv_at hl 1 rfl) ?_
      refine lv_iload hx hb d_Ranking_sort_76 (lv_at hl 6 rfl) ?_
      refine lv_aload_n hx hb d_Ranking_sort_78 rfl (lv_at hl 1 rfl) ?_
      refine lv_iload hx hb d_Ranking_sort_79 (lv_at hl 6 rfl) ?_
      refine lv_iconst (v := (1 : Int32)) hx hb d_Ranking_sort_81 (by decide) ?_
      refine lv_iadd hx hb d_Ranking_sort_82 ?_
      refine lv_iload hx hb d_Ranking_sort_83 (lv_at hl 4 rfl) ?_
      refine lv_iload hx hb d_Ranking_sort_85 (lv_at hl 6 rfl) ?_
      refine lv_isub hx hb d_Ranking_sort_87 ?_
      obtain ⟨hp88, hM⟩ := gc_some hM
      obtain ⟨hq88, hM⟩ := gc_some hM
      obtain ⟨hi88, hM⟩ := gc_some hM
      obtain ⟨u88, e88, hM⟩ := gb_some hM
      refine g_copy C hP hS (gWs_at 926 (by decide +kernel) (by decide +kernel)) hl.1 (eq_of_beq hp88) (eq_of_beq hq88) hi88 (Nat.le_of_ble_eq_true rfl) (by decide) (by decide) d_Ranking_sort_88 (fun H locs hP hS => ?_)
      rw [Option.some.inj e88] at hP
      refine lv_aload_n hx hb d_Ranking_sort_91 rfl (lv_at hl 1 rfl) ?_
      refine lv_iload hx hb d_Ranking_sort_92 (lv_at hl 6 rfl) ?_
      refine lv_iload hx hb d_Ranking_sort_94 (lv_at hl 5 rfl) ?_
      obtain ⟨h96, hM⟩ := gc_some hM
      obtain ⟨hi96, hM⟩ := gc_some hM
      obtain ⟨u96, e96, hM⟩ := gb_some hM
      refine g_iast C hP hS (eq_of_beq h96) hi96 d_Ranking_sort_96 (fun H locs hP hS => ?_)
      rw [Option.some.inj e96] at hP
      refine lv_iinc (k := 4) (v := y22.2.2.2.1 + (1 : Int32)) (lv' := [(4, .int (y22.2.2.2.1 + (1 : Int32))), (0, .ref (ρ 27)), (1, .ref (ρ y22.1)), (2, .int y22.2.1), (3, .int y22.2.2.1), (5, .int y22.2.2.2.2.1), (6, .int y22.2.2.2.2.2.1)]) hx hb d_Ranking_sort_97 hl rfl (congrArg (fun z => y22.2.2.2.1 + z) (by decide)) (by decide) rfl (fun ls hl => ?_)
      refine lv_goto (tgt := 3) hx hb d_Ranking_sort_100 (by decide) ?_
      exact hN _ _ _ _ _ (Option.some.inj hM).symm ls H locs (lv_sub hl [1, 2, 3, 4, 0] rfl) hP hS
noncomputable def M_Ranking_sort_L3 : (Nat × Int32 × Int32 × Int32 × gSt) → Option ((Nat × Int32 × Int32 × Int32 × gSt) ⊕ ((gSt))) := fun x => M_Ranking_sort_b3 x.1 x.2.1 x.2.2.1 x.2.2.2.1 x.2.2.2.2
theorem t_Ranking_sort_L3 (C : gX "TermDesk$Ranking" prog_8_method_15_code 9 none 3 103 R cells slots cy D ρ A p s m args meth c) {a1 : Nat} {x2 : Int32} {x3 : Int32} {x4 : Int32} {u : gSt} {yy : (gSt)} (hL : gLp M_Ranking_sort_L3 (a1, x2, x3, x4, u) = some yy) (hE0 : (∀ y', yy = y' → gAt p l e R s m args below meth c Q H0 cells slots cy D ρ A 9 103 [] [] (y'))) : gAt p l e R s m args below meth c Q H0 cells slots cy D ρ A 9 3 [(0, .ref (ρ 27)), (1, .ref (ρ a1)), (2, .int x2), (3, .int x3), (4, .int x4)] [] u :=
  g_loop (f := M_Ranking_sort_L3) (P := fun x => gAt p l e R s m args below meth c Q H0 cells slots cy D ρ A 9 3 [(0, .ref (ρ 27)), (1, .ref (ρ x.1)), (2, .int x.2.1), (3, .int x.2.2.1), (4, .int x.2.2.2.1)] [] x.2.2.2.2) (E := fun yy => (∀ y', yy = y' → gAt p l e R s m args below meth c Q H0 cells slots cy D ρ A 9 103 [] [] (y'))) (fun x z hf hN hE => t_Ranking_sort_b3 C hf (fun a1' x2' x3' x4' u' h => hN (a1', x2', x3', x4', u') h) (fun u' h => (hE _ h) u' rfl)) hL hE0
noncomputable def M_Ranking_sort (a1 : Nat) (x2 : Int32) (x3 : Int32) (u : gSt) : Option (gSt) :=
  (gLp M_Ranking_sort_L3 (a1, x2, x3, (1 : Int32), u)).bind fun y3 =>
  some y3
set_option maxHeartbeats 4000000 in
set_option maxRecDepth 100000 in
theorem t_Ranking_sort (C : gX "TermDesk$Ranking" prog_8_method_15_code 9 none 3 103 R cells slots cy D ρ A p s m args meth c) {a1 : Nat} {x2 : Int32} {x3 : Int32} {u : gSt} {z : gSt} (hM : M_Ranking_sort a1 x2 x3 u = some z) (hR : gRtV p l e R s m args below meth c Q H0 cells slots cy D ρ A prog_8_method_15_code z) : gAt p l e R s m args below meth c Q H0 cells slots cy D ρ A 9 0 [(0, .ref (ρ 27)), (1, .ref (ρ a1)), (2, .int x2), (3, .int x3)] [] u := by
  intro ls H locs hl hP hS
  have hx := C.1
  have hb := C.2.1
  unfold M_Ranking_sort at hM
  refine lv_iconst (v := (1 : Int32)) hx hb d_Ranking_sort_0 (by decide) ?_
  refine lv_istore (lv' := [(4, .int (1 : Int32)), (0, .ref (ρ 27)), (1, .ref (ρ a1)), (2, .int x2), (3, .int x3)]) hx hb d_Ranking_sort_1 hl (by decide) rfl (fun ls hl => ?_)
  obtain ⟨y3, hL3, hM⟩ := gb_some hM
  refine t_Ranking_sort_L3 C hL3 (fun y3_0 hy => ?_) ls H locs (lv_sub hl [1, 2, 3, 4, 0] rfl) hP hS
  · subst hy
    intro ls H locs hl hP hS
    obtain rfl := Option.some.inj hM
    exact hR _ ls H locs d_Ranking_sort_103 hP hS
theorem c_Ranking_sort {l : Launch} {cy : Nat → ClassId} {D : va_G} {ρ : Nat → Nat} {A : Nat → Prop} (hD : gD ρ A) {a1 : Nat} {x2 : Int32} {x3 : Int32} {u : gSt} {z : gSt} (hM : M_Ranking_sort a1 x2 x3 u = some z) : gCtV l y_Ranking_sort prog_8_method_15_code 9 none 3 103 cy D ρ A [.ref (ρ 27), .ref (ρ a1), .int x2, .int x3] u z :=
  g_met (by decide) hD (Nat.le_of_ble_eq_true rfl) (fun p e s m below meth c ls X hl hP => t_Ranking_sort X hM (fun pc ls H locs hd hP hS => g_vret X hP hS hd) ls _ [] hl hP va_S.rf)
end
section
variable {p : Program} {l : Launch} {e : Env} {R : Room} {s : State} {m : MethodId} {args : Array Value} {below : List Frame} {meth : Method} {c : Code} {Q : State → Prop} {H0 : Heap} {cells slots : Nat} {cy : Nat → ClassId} {D : va_G} {ρ : Nat → Nat} {A : Nat → Prop}
def y_Ranking_chooseRows : MethodName := ⟨"TermDesk$Ranking", "chooseRows", "(III)V"⟩
theorem gi_Ranking_chooseRows : gMi y_Ranking_chooseRows prog_8_method_13_code 5 none 3 6 := ⟨(gWs_at 946 (by decide +kernel) (by decide +kernel)), (gWs_at 945 (by decide +kernel) (by decide +kernel)), (gWs_at 55 (by decide +kernel) (by decide +kernel)), (gWs_at 123 (by decide +kernel) (by decide +kernel)), ⟨by decide +kernel, by decide +kernel, by decide +kernel⟩, _, _, rfl⟩
theorem gm_Desk_184 : gMk "TermDesk" 184 y_Ranking_chooseRows := Or.inr ⟨"TermDesk", gNs_at 943 (by decide +kernel) (by decide +kernel)⟩
theorem d_Ranking_chooseRows_0 : decode prog_8_method_13_code 0 = .ok (.aload_n 0, 1) := by decide +kernel
theorem d_Ranking_chooseRows_1 : decode prog_8_method_13_code 1 = .ok (.iconst 0, 1) := by decide +kernel
theorem d_Ranking_chooseRows_2 : decode prog_8_method_13_code 2 = .ok (.putfield 56, 3) := by decide +kernel
theorem d_Ranking_chooseRows_5 : decode prog_8_method_13_code 5 = .ok (.iconst 0, 1) := by decide +kernel
theorem d_Ranking_chooseRows_6 : decode prog_8_method_13_code 6 = .ok (.istore 4, 2) := by decide +kernel
theorem d_Ranking_chooseRows_8 : decode prog_8_method_13_code 8 = .ok (.iload 4, 2) := by decide +kernel
theorem d_Ranking_chooseRows_10 : decode prog_8_method_13_code 10 = .ok (.aload_n 0, 1) := by decide +kernel
theorem d_Ranking_chooseRows_11 : decode prog_8_method_13_code 11 = .ok (.getfield 53, 3) := by decide +kernel
theorem d_Ranking_chooseRows_14 : decode prog_8_method_13_code 14 = .ok (.if_icmp .ge 45, 3) := by decide +kernel
theorem d_Ranking_chooseRows_17 : decode prog_8_method_13_code 17 = .ok (.aload_n 0, 1) := by decide +kernel
theorem d_Ranking_chooseRows_18 : decode prog_8_method_13_code 18 = .ok (.iload_n 1, 1) := by decide +kernel
theorem d_Ranking_chooseRows_19 : decode prog_8_method_13_code 19 = .ok (.iload 4, 2) := by decide +kernel
theorem d_Ranking_chooseRows_21 : decode prog_8_method_13_code 21 = .ok (.invokestatic 78, 3) := by decide +kernel
theorem d_Ranking_chooseRows_24 : decode prog_8_method_13_code 24 = .ok (.iload_n 2, 1) := by decide +kernel
theorem d_Ranking_chooseRows_25 : decode prog_8_method_13_code 25 = .ok (.iload_n 3, 1) := by decide +kernel
theorem d_Ranking_chooseRows_26 : decode prog_8_method_13_code 26 = .ok (.invokevirtual 145, 3) := by decide +kernel
theorem d_Ranking_chooseRows_29 : decode prog_8_method_13_code 29 = .ok (.ifCond .eq 24, 3) := by decide +kernel
theorem d_Ranking_chooseRows_32 : decode prog_8_method_13_code 32 = .ok (.aload_n 0, 1) := by decide +kernel
theorem d_Ranking_chooseRows_33 : decode prog_8_method_13_code 33 = .ok (.getfield 37, 3) := by decide +kernel
theorem d_Ranking_chooseRows_36 : decode prog_8_method_13_code 36 = .ok (.aload_n 0, 1) := by decide +kernel
theorem d_Ranking_chooseRows_37 : decode prog_8_method_13_code 37 = .ok (.getfield 56, 3) := by decide +kernel
theorem d_Ranking_chooseRows_40 : decode prog_8_method_13_code 40 = .ok (.iload 4, 2) := by decide +kernel
theorem d_Ranking_chooseRows_42 : decode prog_8_method_13_code 42 = .ok (.iastore, 1) := by decide +kernel
theorem d_Ranking_chooseRows_43 : decode prog_8_method_13_code 43 = .ok (.aload_n 0, 1) := by decide +kernel
theorem d_Ranking_chooseRows_44 : decode prog_8_method_13_code 44 = .ok (.dup, 1) := by decide +kernel
theorem d_Ranking_chooseRows_45 : decode prog_8_method_13_code 45 = .ok (.getfield 56, 3) := by decide +kernel
theorem d_Ranking_chooseRows_48 : decode prog_8_method_13_code 48 = .ok (.iconst 1, 1) := by decide +kernel
theorem d_Ranking_chooseRows_49 : decode prog_8_method_13_code 49 = .ok (.iadd, 1) := by decide +kernel
theorem d_Ranking_chooseRows_50 : decode prog_8_method_13_code 50 = .ok (.putfield 56, 3) := by decide +kernel
theorem d_Ranking_chooseRows_53 : decode prog_8_method_13_code 53 = .ok (.iinc 4 1, 3) := by decide +kernel
theorem d_Ranking_chooseRows_56 : decode prog_8_method_13_code 56 = .ok (.goto (-48), 3) := by decide +kernel
theorem d_Ranking_chooseRows_59 : decode prog_8_method_13_code 59 = .ok (.aload_n 0, 1) := by decide +kernel
theorem d_Ranking_chooseRows_60 : decode prog_8_method_13_code 60 = .ok (.aload_n 0, 1) := by decide +kernel
theorem d_Ranking_chooseRows_61 : decode prog_8_method_13_code 61 = .ok (.getfield 37, 3) := by decide +kernel
theorem d_Ranking_chooseRows_64 : decode prog_8_method_13_code 64 = .ok (.aload_n 0, 1) := by decide +kernel
theorem d_Ranking_chooseRows_65 : decode prog_8_method_13_code 65 = .ok (.getfield 56, 3) := by decide +kernel
theorem d_Ranking_chooseRows_68 : decode prog_8_method_13_code 68 = .ok (.iload_n 1, 1) := by decide +kernel
theorem d_Ranking_chooseRows_69 : decode prog_8_method_13_code 69 = .ok (.invokevirtual 75, 3) := by decide +kernel
theorem d_Ranking_chooseRows_72 : decode prog_8_method_13_code 72 = .ok (.return_, 1) := by decide +kernel
noncomputable def M_Ranking_chooseRows_b53 (x1 : Int32) (x2 : Int32) (x3 : Int32) (x4 : Int32) (u : gSt) : Option ((Int32 × Int32 × Int32 × Int32 × gSt) ⊕ ((Int32 × gSt))) :=
  some (.inl (x1, x2, x3, x4 + (1 : Int32), u))
set_option maxHeartbeats 4000000 in
set_option maxRecDepth 100000 in
theorem t_Ranking_chooseRows_b53 (C : gX "TermDesk$Ranking" prog_8_method_13_code 5 none 4 131 R cells slots cy D ρ A p s m args meth c) {x1 : Int32} {x2 : Int32} {x3 : Int32} {x4 : Int32} {u : gSt} {z : (Int32 × Int32 × Int32 × Int32 × gSt) ⊕ ((Int32 × gSt))} (hM : M_Ranking_chooseRows_b53 x1 x2 x3 x4 u = some z) (hN : ∀ x1' x2' x3' x4' u', z = .inl (x1', x2', x3', x4', u') → gAt p l e R s m args below meth c Q H0 cells slots cy D ρ A 5 8 [(0, .ref (ρ 27)), (1, .int (x1')), (2, .int (x2')), (3, .int (x3')), (4, .int (x4'))] [] (u')) (hE0 : ∀ x1' u', z = .inr (x1', u') → gAt p l e R s m args below meth c Q H0 cells slots cy D ρ A 5 59 [(0, .ref (ρ 27)), (1, .int (x1'))] [] (u')) : gAt p l e R s m args below meth c Q H0 cells slots cy D ρ A 5 53 [(0, .ref (ρ 27)), (1, .int x1), (2, .int x2), (3, .int x3), (4, .int x4)] [] u := by
  intro ls H locs hl hP hS
  have hx := C.1
  have hb := C.2.1
  unfold M_Ranking_chooseRows_b53 at hM
  refine lv_iinc (k := 4) (v := x4 + (1 : Int32)) (lv' := [(4, .int (x4 + (1 : Int32))), (0, .ref (ρ 27)), (1, .int x1), (2, .int x2), (3, .int x3)]) hx hb d_Ranking_chooseRows_53 hl rfl (congrArg (fun z => x4 + z) (by decide)) (by decide) rfl (fun ls hl => ?_)
  refine lv_goto (tgt := 8) hx hb d_Ranking_chooseRows_56 (by decide) ?_
  exact hN _ _ _ _ _ (Option.some.inj hM).symm ls H locs (lv_sub hl [1, 2, 3, 4, 0] rfl) hP hS
noncomputable def M_Ranking_chooseRows_b8 (x1 : Int32) (x2 : Int32) (x3 : Int32) (x4 : Int32) (u : gSt) : Option ((Int32 × Int32 × Int32 × Int32 × gSt) ⊕ ((Int32 × gSt))) :=
  if (u.1 27 12) ≤ x4 then
    (some (.inr (x1, u)))
  else
    ((M_Ranking_slot x1 x4 u).bind fun q21 =>
    (M_Ranking_isWithin q21.1 x2 x3 q21.2).bind fun q26 =>
    if q26.1 = (0 : Int32) then
      (M_Ranking_chooseRows_b53 x1 x2 x3 x4 q26.2)
    else
      (gc (gIn (q26.2.1 27 13) (gLen 35)) <| (some (gsA q26.2 35 (gIx (q26.2.1 27 13)) x4)).bind fun u42 =>
      (some (gsF u42 27 13 ((u42.1 27 13) + (1 : Int32)))).bind fun u50 =>
      M_Ranking_chooseRows_b53 x1 x2 x3 x4 u50))
set_option maxHeartbeats 4000000 in
set_option maxRecDepth 100000 in
theorem t_Ranking_chooseRows_b8 (C : gX "TermDesk$Ranking" prog_8_method_13_code 5 none 4 131 R cells slots cy D ρ A p s m args meth c) {x1 : Int32} {x2 : Int32} {x3 : Int32} {x4 : Int32} {u : gSt} {z : (Int32 × Int32 × Int32 × Int32 × gSt) ⊕ ((Int32 × gSt))} (hM : M_Ranking_chooseRows_b8 x1 x2 x3 x4 u = some z) (hN : ∀ x1' x2' x3' x4' u', z = .inl (x1', x2', x3', x4', u') → gAt p l e R s m args below meth c Q H0 cells slots cy D ρ A 5 8 [(0, .ref (ρ 27)), (1, .int (x1')), (2, .int (x2')), (3, .int (x3')), (4, .int (x4'))] [] (u')) (hE0 : ∀ x1' u', z = .inr (x1', u') → gAt p l e R s m args below meth c Q H0 cells slots cy D ρ A 5 59 [(0, .ref (ρ 27)), (1, .int (x1'))] [] (u')) : gAt p l e R s m args below meth c Q H0 cells slots cy D ρ A 5 8 [(0, .ref (ρ 27)), (1, .int x1), (2, .int x2), (3, .int x3), (4, .int x4)] [] u := by
  intro ls H locs hl hP hS
  have hx := C.1
  have hb := C.2.1
  unfold M_Ranking_chooseRows_b8 at hM
  refine lv_iload hx hb d_Ranking_chooseRows_8 (lv_at hl 4 rfl) ?_
  refine lv_aload_n hx hb d_Ranking_chooseRows_10 rfl (lv_at hl 0 rfl) ?_
  refine g_getI C hP gl_Ranking_53 rfl rfl d_Ranking_chooseRows_11 ?_
  refine lv_icmp_ge (tgt := 59) hx hb d_Ranking_chooseRows_14 (by decide) (fun hc14 => ?_) (fun hc14 => ?_)
  · replace hM := gi_t hc14 hM
    exact hE0 _ _ (Option.some.inj hM).symm ls H locs (lv_sub hl [0, 1] rfl) hP hS
  · replace hM := gi_f hc14 hM
    refine lv_aload_n hx hb d_Ranking_chooseRows_17 rfl (lv_at hl 0 rfl) ?_
    refine lv_iload_n hx hb d_Ranking_chooseRows_18 rfl (lv_at hl 1 rfl) ?_
    refine lv_iload hx hb d_Ranking_chooseRows_19 (lv_at hl 4 rfl) ?_
    obtain ⟨q21, hq21, hM⟩ := gb_some hM
    refine g_backI (g_runS (As := [.int x1, .int x4]) C hP (c_Ranking_slot C.2.2.2.2.2.2.2.2.1 hq21) gi_Ranking_slot gm_Ranking_78 rfl (by decide) (by decide) hl.1 rfl (Nat.le_of_ble_eq_true rfl) d_Ranking_chooseRows_21) hS (fun H locs hP hS => ?_)
    refine lv_iload_n hx hb d_Ranking_chooseRows_24 rfl (lv_at hl 2 rfl) ?_
    refine lv_iload_n hx hb d_Ranking_chooseRows_25 rfl (lv_at hl 3 rfl) ?_
    obtain ⟨q26, hq26, hM⟩ := gb_some hM
    refine g_backI (g_runV (As := [.int q21.1, .int x2, .int x3]) C hP (c_Ranking_isWithin C.2.2.2.2.2.2.2.2.1 hq26) gi_Ranking_isWithin gm_Ranking_145 rfl rfl (by decide) (by decide) hl.1 rfl (Nat.le_of_ble_eq_true rfl) d_Ranking_chooseRows_26) hS (fun H locs hP hS => ?_)
    refine lv_if_eq (tgt := 53) hx hb d_Ranking_chooseRows_29 (by decide) (fun hc29 => ?_) (fun hc29 => ?_)
    · replace hM := gi_t hc29 hM
      exact t_Ranking_chooseRows_b53 C hM hN hE0 ls H locs (lv_sub hl [0, 1, 2, 3, 4] rfl) hP hS
    · replace hM := gi_f hc29 hM
      refine lv_aload_n hx hb d_Ranking_chooseRows_32 rfl (lv_at hl 0 rfl) ?_
      refine g_getR (b := 35) C hP gl_Ranking_37 rfl rfl rfl d_Ranking_chooseRows_33 ?_
      refine lv_aload_n hx hb d_Ranking_chooseRows_36 rfl (lv_at hl 0 rfl) ?_
      refine g_getI C hP gl_Ranking_56 rfl rfl d_Ranking_chooseRows_37 ?_
      refine lv_iload hx hb d_Ranking_chooseRows_40 (lv_at hl 4 rfl) ?_
      obtain ⟨hi42, hM⟩ := gc_some hM
      obtain ⟨u42, e42, hM⟩ := gb_some hM
      refine g_iast C hP hS rfl hi42 d_Ranking_chooseRows_42 (fun H locs hP hS => ?_)
      rw [Option.some.inj e42] at hP
      refine lv_aload_n hx hb d_Ranking_chooseRows_43 rfl (lv_at hl 0 rfl) ?_
      refine lv_dup hx hb d_Ranking_chooseRows_44 rfl ?_
      refine g_getI C hP gl_Ranking_56 rfl rfl d_Ranking_chooseRows_45 ?_
      refine lv_iconst (v := (1 : Int32)) hx hb d_Ranking_chooseRows_48 (by decide) ?_
      refine lv_iadd hx hb d_Ranking_chooseRows_49 ?_
      obtain ⟨u50, e50, hM⟩ := gb_some hM
      refine g_putI C hP hS gl_Ranking_56 rfl rfl gq_6_13 d_Ranking_chooseRows_50 (fun H locs hP hS => ?_)
      rw [Option.some.inj e50] at hP
      exact t_Ranking_chooseRows_b53 C hM hN hE0 ls H locs (lv_sub hl [0, 1, 2, 3, 4] rfl) hP hS
noncomputable def M_Ranking_chooseRows_L8 : (Int32 × Int32 × Int32 × Int32 × gSt) → Option ((Int32 × Int32 × Int32 × Int32 × gSt) ⊕ ((Int32 × gSt))) := fun x => M_Ranking_chooseRows_b8 x.1 x.2.1 x.2.2.1 x.2.2.2.1 x.2.2.2.2
theorem t_Ranking_chooseRows_L8 (C : gX "TermDesk$Ranking" prog_8_method_13_code 5 none 4 131 R cells slots cy D ρ A p s m args meth c) {x1 : Int32} {x2 : Int32} {x3 : Int32} {x4 : Int32} {u : gSt} {yy : (Int32 × gSt)} (hL : gLp M_Ranking_chooseRows_L8 (x1, x2, x3, x4, u) = some yy) (hE0 : (∀ y', yy = y' → gAt p l e R s m args below meth c Q H0 cells slots cy D ρ A 5 59 [(0, .ref (ρ 27)), (1, .int (y'.1))] [] (y'.2))) : gAt p l e R s m args below meth c Q H0 cells slots cy D ρ A 5 8 [(0, .ref (ρ 27)), (1, .int x1), (2, .int x2), (3, .int x3), (4, .int x4)] [] u :=
  g_loop (f := M_Ranking_chooseRows_L8) (P := fun x => gAt p l e R s m args below meth c Q H0 cells slots cy D ρ A 5 8 [(0, .ref (ρ 27)), (1, .int x.1), (2, .int x.2.1), (3, .int x.2.2.1), (4, .int x.2.2.2.1)] [] x.2.2.2.2) (E := fun yy => (∀ y', yy = y' → gAt p l e R s m args below meth c Q H0 cells slots cy D ρ A 5 59 [(0, .ref (ρ 27)), (1, .int (y'.1))] [] (y'.2))) (fun x z hf hN hE => t_Ranking_chooseRows_b8 C hf (fun x1' x2' x3' x4' u' h => hN (x1', x2', x3', x4', u') h) (fun x1' u' h => (hE _ h) (x1', u') rfl)) hL hE0
noncomputable def M_Ranking_chooseRows (x1 : Int32) (x2 : Int32) (x3 : Int32) (u : gSt) : Option (gSt) :=
  (some (gsF u 27 13 (0 : Int32))).bind fun u2 =>
  (gLp M_Ranking_chooseRows_L8 (x1, x2, x3, (0 : Int32), u2)).bind fun y8 =>
  (M_Ranking_sort 35 (y8.2.1 27 13) y8.1 y8.2).bind fun q69 =>
  some q69
set_option maxHeartbeats 4000000 in
set_option maxRecDepth 100000 in
theorem t_Ranking_chooseRows (C : gX "TermDesk$Ranking" prog_8_method_13_code 5 none 4 131 R cells slots cy D ρ A p s m args meth c) {x1 : Int32} {x2 : Int32} {x3 : Int32} {u : gSt} {z : gSt} (hM : M_Ranking_chooseRows x1 x2 x3 u = some z) (hR : gRtV p l e R s m args below meth c Q H0 cells slots cy D ρ A prog_8_method_13_code z) : gAt p l e R s m args below meth c Q H0 cells slots cy D ρ A 5 0 [(0, .ref (ρ 27)), (1, .int x1), (2, .int x2), (3, .int x3)] [] u := by
  intro ls H locs hl hP hS
  have hx := C.1
  have hb := C.2.1
  unfold M_Ranking_chooseRows at hM
  refine lv_aload_n hx hb d_Ranking_chooseRows_0 rfl (lv_at hl 0 rfl) ?_
  refine lv_iconst (v := (0 : Int32)) hx hb d_Ranking_chooseRows_1 (by decide) ?_
  obtain ⟨u2, e2, hM⟩ := gb_some hM
  refine g_putI C hP hS gl_Ranking_56 rfl rfl gq_6_13 d_Ranking_chooseRows_2 (fun H locs hP hS => ?_)
  rw [Option.some.inj e2] at hP
  refine lv_iconst (v := (0 : Int32)) hx hb d_Ranking_chooseRows_5 (by decide) ?_
  refine lv_istore (lv' := [(4, .int (0 : Int32)), (0, .ref (ρ 27)), (1, .int x1), (2, .int x2), (3, .int x3)]) hx hb d_Ranking_chooseRows_6 hl (by decide) rfl (fun ls hl => ?_)
  obtain ⟨y8, hL8, hM⟩ := gb_some hM
  refine t_Ranking_chooseRows_L8 C hL8 (fun y8_0 hy => ?_) ls H locs (lv_sub hl [1, 2, 3, 4, 0] rfl) hP hS
  · subst hy
    intro ls H locs hl hP hS
    refine lv_aload_n hx hb d_Ranking_chooseRows_59 rfl (lv_at hl 0 rfl) ?_
    refine lv_aload_n hx hb d_Ranking_chooseRows_60 rfl (lv_at hl 0 rfl) ?_
    refine g_getR (b := 35) C hP gl_Ranking_37 rfl rfl rfl d_Ranking_chooseRows_61 ?_
    refine lv_aload_n hx hb d_Ranking_chooseRows_64 rfl (lv_at hl 0 rfl) ?_
    refine g_getI C hP gl_Ranking_56 rfl rfl d_Ranking_chooseRows_65 ?_
    refine lv_iload_n hx hb d_Ranking_chooseRows_68 rfl (lv_at hl 1 rfl) ?_
    obtain ⟨q69, hq69, hM⟩ := gb_some hM
    refine g_backV (g_runV (As := [.ref (ρ 35), .int (y8.2.1 27 13), .int y8.1]) C hP (c_Ranking_sort C.2.2.2.2.2.2.2.2.1 hq69) gi_Ranking_sort gm_Ranking_75 rfl rfl (by decide) (by decide) hl.1 rfl (Nat.le_of_ble_eq_true rfl) d_Ranking_chooseRows_69) hS (fun H locs hP hS => ?_)
    obtain rfl := Option.some.inj hM
    exact hR _ ls H locs d_Ranking_chooseRows_72 hP hS
theorem c_Ranking_chooseRows {l : Launch} {cy : Nat → ClassId} {D : va_G} {ρ : Nat → Nat} {A : Nat → Prop} (hD : gD ρ A) {x1 : Int32} {x2 : Int32} {x3 : Int32} {u : gSt} {z : gSt} (hM : M_Ranking_chooseRows x1 x2 x3 u = some z) : gCtV l y_Ranking_chooseRows prog_8_method_13_code 5 none 4 131 cy D ρ A [.ref (ρ 27), .int x1, .int x2, .int x3] u z :=
  g_met (by decide) hD (Nat.le_of_ble_eq_true rfl) (fun p e s m below meth c ls X hl hP => t_Ranking_chooseRows X hM (fun pc ls H locs hd hP hS => g_vret X hP hS hd) ls _ [] hl hP va_S.rf)
end
section
variable {p : Program} {l : Launch} {e : Env} {R : Room} {s : State} {m : MethodId} {args : Array Value} {below : List Frame} {meth : Method} {c : Code} {Q : State → Prop} {H0 : Heap} {cells slots : Nat} {cy : Nat → ClassId} {D : va_G} {ρ : Nat → Nat} {A : Nat → Prop}
def y_Ranking_takeCandidates : MethodName := ⟨"TermDesk$Ranking", "takeCandidates", "(LTermDesk$Board;)V"⟩
theorem gi_Ranking_takeCandidates : gMi y_Ranking_takeCandidates prog_8_method_5_code 3 none 1 6 := ⟨(gWs_at 868 (by decide +kernel) (by decide +kernel)), (gWs_at 867 (by decide +kernel) (by decide +kernel)), (gWs_at 46 (by decide +kernel) (by decide +kernel)), (gWs_at 123 (by decide +kernel) (by decide +kernel)), ⟨by decide +kernel, by decide +kernel, by decide +kernel⟩, _, _, rfl⟩
theorem gm_Ranking_59 : gMk "TermDesk$Ranking" 59 y_Ranking_takeCandidates := Or.inl (gWs_at 865 (by decide +kernel) (by decide +kernel))
theorem d_Ranking_takeCandidates_0 : decode prog_8_method_5_code 0 = .ok (.aload_n 0, 1) := by decide +kernel
theorem d_Ranking_takeCandidates_1 : decode prog_8_method_5_code 1 = .ok (.aload_n 1, 1) := by decide +kernel
theorem d_Ranking_takeCandidates_2 : decode prog_8_method_5_code 2 = .ok (.invokevirtual 92, 3) := by decide +kernel
theorem d_Ranking_takeCandidates_5 : decode prog_8_method_5_code 5 = .ok (.putfield 46, 3) := by decide +kernel
theorem d_Ranking_takeCandidates_8 : decode prog_8_method_5_code 8 = .ok (.aload_n 0, 1) := by decide +kernel
theorem d_Ranking_takeCandidates_9 : decode prog_8_method_5_code 9 = .ok (.aload_n 1, 1) := by decide +kernel
theorem d_Ranking_takeCandidates_10 : decode prog_8_method_5_code 10 = .ok (.invokevirtual 97, 3) := by decide +kernel
theorem d_Ranking_takeCandidates_13 : decode prog_8_method_5_code 13 = .ok (.putfield 50, 3) := by decide +kernel
theorem d_Ranking_takeCandidates_16 : decode prog_8_method_5_code 16 = .ok (.aload_n 0, 1) := by decide +kernel
theorem d_Ranking_takeCandidates_17 : decode prog_8_method_5_code 17 = .ok (.iconst 0, 1) := by decide +kernel
theorem d_Ranking_takeCandidates_18 : decode prog_8_method_5_code 18 = .ok (.putfield 53, 3) := by decide +kernel
theorem d_Ranking_takeCandidates_21 : decode prog_8_method_5_code 21 = .ok (.iconst 0, 1) := by decide +kernel
theorem d_Ranking_takeCandidates_22 : decode prog_8_method_5_code 22 = .ok (.istore_n 2, 1) := by decide +kernel
theorem d_Ranking_takeCandidates_23 : decode prog_8_method_5_code 23 = .ok (.iload_n 2, 1) := by decide +kernel
theorem d_Ranking_takeCandidates_24 : decode prog_8_method_5_code 24 = .ok (.aload_n 1, 1) := by decide +kernel
theorem d_Ranking_takeCandidates_25 : decode prog_8_method_5_code 25 = .ok (.getfield 99, 3) := by decide +kernel
theorem d_Ranking_takeCandidates_28 : decode prog_8_method_5_code 28 = .ok (.if_icmp .ge 65, 3) := by decide +kernel
theorem d_Ranking_takeCandidates_31 : decode prog_8_method_5_code 31 = .ok (.aload_n 1, 1) := by decide +kernel
theorem d_Ranking_takeCandidates_32 : decode prog_8_method_5_code 32 = .ok (.iload_n 2, 1) := by decide +kernel
theorem d_Ranking_takeCandidates_33 : decode prog_8_method_5_code 33 = .ok (.invokevirtual 102, 3) := by decide +kernel
theorem d_Ranking_takeCandidates_36 : decode prog_8_method_5_code 36 = .ok (.ifCond .eq 51, 3) := by decide +kernel
theorem d_Ranking_takeCandidates_39 : decode prog_8_method_5_code 39 = .ok (.aload_n 0, 1) := by decide +kernel
theorem d_Ranking_takeCandidates_40 : decode prog_8_method_5_code 40 = .ok (.getfield 9, 3) := by decide +kernel
theorem d_Ranking_takeCandidates_43 : decode prog_8_method_5_code 43 = .ok (.aload_n 0, 1) := by decide +kernel
theorem d_Ranking_takeCandidates_44 : decode prog_8_method_5_code 44 = .ok (.getfield 53, 3) := by decide +kernel
theorem d_Ranking_takeCandidates_47 : decode prog_8_method_5_code 47 = .ok (.iload_n 2, 1) := by decide +kernel
theorem d_Ranking_takeCandidates_48 : decode prog_8_method_5_code 48 = .ok (.iastore, 1) := by decide +kernel
theorem d_Ranking_takeCandidates_49 : decode prog_8_method_5_code 49 = .ok (.aload_n 0, 1) := by decide +kernel
theorem d_Ranking_takeCandidates_50 : decode prog_8_method_5_code 50 = .ok (.getfield 15, 3) := by decide +kernel
theorem d_Ranking_takeCandidates_53 : decode prog_8_method_5_code 53 = .ok (.aload_n 0, 1) := by decide +kernel
theorem d_Ranking_takeCandidates_54 : decode prog_8_method_5_code 54 = .ok (.getfield 53, 3) := by decide +kernel
theorem d_Ranking_takeCandidates_57 : decode prog_8_method_5_code 57 = .ok (.aload_n 1, 1) := by decide +kernel
theorem d_Ranking_takeCandidates_58 : decode prog_8_method_5_code 58 = .ok (.iload_n 2, 1) := by decide +kernel
theorem d_Ranking_takeCandidates_59 : decode prog_8_method_5_code 59 = .ok (.invokevirtual 106, 3) := by decide +kernel
theorem d_Ranking_takeCandidates_62 : decode prog_8_method_5_code 62 = .ok (.iastore, 1) := by decide +kernel
theorem d_Ranking_takeCandidates_63 : decode prog_8_method_5_code 63 = .ok (.aload_n 0, 1) := by decide +kernel
theorem d_Ranking_takeCandidates_64 : decode prog_8_method_5_code 64 = .ok (.getfield 18, 3) := by decide +kernel
theorem d_Ranking_takeCandidates_67 : decode prog_8_method_5_code 67 = .ok (.aload_n 0, 1) := by decide +kernel
theorem d_Ranking_takeCandidates_68 : decode prog_8_method_5_code 68 = .ok (.getfield 53, 3) := by decide +kernel
theorem d_Ranking_takeCandidates_71 : decode prog_8_method_5_code 71 = .ok (.aload_n 1, 1) := by decide +kernel
theorem d_Ranking_takeCandidates_72 : decode prog_8_method_5_code 72 = .ok (.iload_n 2, 1) := by decide +kernel
theorem d_Ranking_takeCandidates_73 : decode prog_8_method_5_code 73 = .ok (.invokevirtual 110, 3) := by decide +kernel
theorem d_Ranking_takeCandidates_76 : decode prog_8_method_5_code 76 = .ok (.iastore, 1) := by decide +kernel
theorem d_Ranking_takeCandidates_77 : decode prog_8_method_5_code 77 = .ok (.aload_n 0, 1) := by decide +kernel
theorem d_Ranking_takeCandidates_78 : decode prog_8_method_5_code 78 = .ok (.dup, 1) := by decide +kernel
theorem d_Ranking_takeCandidates_79 : decode prog_8_method_5_code 79 = .ok (.getfield 53, 3) := by decide +kernel
theorem d_Ranking_takeCandidates_82 : decode prog_8_method_5_code 82 = .ok (.iconst 1, 1) := by decide +kernel
theorem d_Ranking_takeCandidates_83 : decode prog_8_method_5_code 83 = .ok (.iadd, 1) := by decide +kernel
theorem d_Ranking_takeCandidates_84 : decode prog_8_method_5_code 84 = .ok (.putfield 53, 3) := by decide +kernel
theorem d_Ranking_takeCandidates_87 : decode prog_8_method_5_code 87 = .ok (.iinc 2 1, 3) := by decide +kernel
theorem d_Ranking_takeCandidates_90 : decode prog_8_method_5_code 90 = .ok (.goto (-67), 3) := by decide +kernel
theorem d_Ranking_takeCandidates_93 : decode prog_8_method_5_code 93 = .ok (.return_, 1) := by decide +kernel
noncomputable def M_Ranking_takeCandidates_b87 (x2 : Int32) (u : gSt) : Option ((Int32 × gSt) ⊕ ((gSt))) :=
  some (.inl (x2 + (1 : Int32), u))
set_option maxHeartbeats 4000000 in
set_option maxRecDepth 100000 in
theorem t_Ranking_takeCandidates_b87 (C : gX "TermDesk$Ranking" prog_8_method_5_code 3 none 4 88 R cells slots cy D ρ A p s m args meth c) {x2 : Int32} {u : gSt} {z : (Int32 × gSt) ⊕ ((gSt))} (hM : M_Ranking_takeCandidates_b87 x2 u = some z) (hN : ∀ x2' u', z = .inl (x2', u') → gAt p l e R s m args below meth c Q H0 cells slots cy D ρ A 3 23 [(0, .ref (ρ 27)), (1, .ref (ρ 4)), (2, .int (x2'))] [] (u')) (hE0 : ∀ u', z = .inr u' → gAt p l e R s m args below meth c Q H0 cells slots cy D ρ A 3 93 [] [] (u')) : gAt p l e R s m args below meth c Q H0 cells slots cy D ρ A 3 87 [(0, .ref (ρ 27)), (1, .ref (ρ 4)), (2, .int x2)] [] u := by
  intro ls H locs hl hP hS
  have hx := C.1
  have hb := C.2.1
  unfold M_Ranking_takeCandidates_b87 at hM
  refine lv_iinc (k := 2) (v := x2 + (1 : Int32)) (lv' := [(2, .int (x2 + (1 : Int32))), (0, .ref (ρ 27)), (1, .ref (ρ 4))]) hx hb d_Ranking_takeCandidates_87 hl rfl (congrArg (fun z => x2 + z) (by decide)) (by decide) rfl (fun ls hl => ?_)
  refine lv_goto (tgt := 23) hx hb d_Ranking_takeCandidates_90 (by decide) ?_
  exact hN _ _ (Option.some.inj hM).symm ls H locs (lv_sub hl [1, 2, 0] rfl) hP hS
noncomputable def M_Ranking_takeCandidates_b23 (x2 : Int32) (u : gSt) : Option ((Int32 × gSt) ⊕ ((gSt))) :=
  if (u.1 4 9) ≤ x2 then
    (some (.inr u))
  else
    ((M_Board_isCandidate x2 u).bind fun q33 =>
    if q33.1 = (0 : Int32) then
      (M_Ranking_takeCandidates_b87 x2 q33.2)
    else
      (gc (gIn (q33.2.1 27 12) (gLen 28)) <| (some (gsA q33.2 28 (gIx (q33.2.1 27 12)) x2)).bind fun u48 =>
      (M_Board_studiedAt x2 u48).bind fun q59 =>
      gc (gIn (u48.1 27 12) (gLen 29)) <| (some (gsA q59.2 29 (gIx (u48.1 27 12)) q59.1)).bind fun u62 =>
      (M_Board_genesAt x2 u62).bind fun q73 =>
      gc (gIn (u62.1 27 12) (gLen 30)) <| (some (gsA q73.2 30 (gIx (u62.1 27 12)) q73.1)).bind fun u76 =>
      (some (gsF u76 27 12 ((u76.1 27 12) + (1 : Int32)))).bind fun u84 =>
      M_Ranking_takeCandidates_b87 x2 u84))
set_option maxHeartbeats 4000000 in
set_option maxRecDepth 100000 in
theorem t_Ranking_takeCandidates_b23 (C : gX "TermDesk$Ranking" prog_8_method_5_code 3 none 4 88 R cells slots cy D ρ A p s m args meth c) {x2 : Int32} {u : gSt} {z : (Int32 × gSt) ⊕ ((gSt))} (hM : M_Ranking_takeCandidates_b23 x2 u = some z) (hN : ∀ x2' u', z = .inl (x2', u') → gAt p l e R s m args below meth c Q H0 cells slots cy D ρ A 3 23 [(0, .ref (ρ 27)), (1, .ref (ρ 4)), (2, .int (x2'))] [] (u')) (hE0 : ∀ u', z = .inr u' → gAt p l e R s m args below meth c Q H0 cells slots cy D ρ A 3 93 [] [] (u')) : gAt p l e R s m args below meth c Q H0 cells slots cy D ρ A 3 23 [(0, .ref (ρ 27)), (1, .ref (ρ 4)), (2, .int x2)] [] u := by
  intro ls H locs hl hP hS
  have hx := C.1
  have hb := C.2.1
  unfold M_Ranking_takeCandidates_b23 at hM
  refine lv_iload_n hx hb d_Ranking_takeCandidates_23 rfl (lv_at hl 2 rfl) ?_
  refine lv_aload_n hx hb d_Ranking_takeCandidates_24 rfl (lv_at hl 1 rfl) ?_
  refine g_getI C hP gl_Ranking_99 rfl rfl d_Ranking_takeCandidates_25 ?_
  refine lv_icmp_ge (tgt := 93) hx hb d_Ranking_takeCandidates_28 (by decide) (fun hc28 => ?_) (fun hc28 => ?_)
  · replace hM := gi_t hc28 hM
    exact hE0 _ (Option.some.inj hM).symm ls H locs (lv_sub hl [] rfl) hP hS
  · replace hM := gi_f hc28 hM
    refine lv_aload_n hx hb d_Ranking_takeCandidates_31 rfl (lv_at hl 1 rfl) ?_
    refine lv_iload_n hx hb d_Ranking_takeCandidates_32 rfl (lv_at hl 2 rfl) ?_
    obtain ⟨q33, hq33, hM⟩ := gb_some hM
    refine g_backI (g_runV (As := [.int x2]) C hP (c_Board_isCandidate C.2.2.2.2.2.2.2.2.1 hq33) gi_Board_isCandidate gm_Ranking_102 rfl rfl (by decide) (by decide) hl.1 rfl (Nat.le_of_ble_eq_true rfl) d_Ranking_takeCandidates_33) hS (fun H locs hP hS => ?_)
    refine lv_if_eq (tgt := 87) hx hb d_Ranking_takeCandidates_36 (by decide) (fun hc36 => ?_) (fun hc36 => ?_)
    · replace hM := gi_t hc36 hM
      exact t_Ranking_takeCandidates_b87 C hM hN hE0 ls H locs (lv_sub hl [0, 1, 2] rfl) hP hS
    · replace hM := gi_f hc36 hM
      refine lv_aload_n hx hb d_Ranking_takeCandidates_39 rfl (lv_at hl 0 rfl) ?_
      refine g_getR (b := 28) C hP gl_Ranking_9 rfl rfl rfl d_Ranking_takeCandidates_40 ?_
      refine lv_aload_n hx hb d_Ranking_takeCandidates_43 rfl (lv_at hl 0 rfl) ?_
      refine g_getI C hP gl_Ranking_53 rfl rfl d_Ranking_takeCandidates_44 ?_
      refine lv_iload_n hx hb d_Ranking_takeCandidates_47 rfl (lv_at hl 2 rfl) ?_
      obtain ⟨hi48, hM⟩ := gc_some hM
      obtain ⟨u48, e48, hM⟩ := gb_some hM
      refine g_iast C hP hS rfl hi48 d_Ranking_takeCandidates_48 (fun H locs hP hS => ?_)
      rw [Option.some.inj e48] at hP
      refine lv_aload_n hx hb d_Ranking_takeCandidates_49 rfl (lv_at hl 0 rfl) ?_
      refine g_getR (b := 29) C hP gl_Ranking_15 rfl rfl rfl d_Ranking_takeCandidates_50 ?_
      refine lv_aload_n hx hb d_Ranking_takeCandidates_53 rfl (lv_at hl 0 rfl) ?_
      refine g_getI C hP gl_Ranking_53 rfl rfl d_Ranking_takeCandidates_54 ?_
      refine lv_aload_n hx hb d_Ranking_takeCandidates_57 rfl (lv_at hl 1 rfl) ?_
      refine lv_iload_n hx hb d_Ranking_takeCandidates_58 rfl (lv_at hl 2 rfl) ?_
      obtain ⟨q59, hq59, hM⟩ := gb_some hM
      refine g_backI (g_runV (As := [.int x2]) C hP (c_Board_studiedAt C.2.2.2.2.2.2.2.2.1 hq59) gi_Board_studiedAt gm_Ranking_106 rfl rfl (by decide) (by decide) hl.1 rfl (Nat.le_of_ble_eq_true rfl) d_Ranking_takeCandidates_59) hS (fun H locs hP hS => ?_)
      obtain ⟨hi62, hM⟩ := gc_some hM
      obtain ⟨u62, e62, hM⟩ := gb_some hM
      refine g_iast C hP hS rfl hi62 d_Ranking_takeCandidates_62 (fun H locs hP hS => ?_)
      rw [Option.some.inj e62] at hP
      refine lv_aload_n hx hb d_Ranking_takeCandidates_63 rfl (lv_at hl 0 rfl) ?_
      refine g_getR (b := 30) C hP gl_Ranking_18 rfl rfl rfl d_Ranking_takeCandidates_64 ?_
      refine lv_aload_n hx hb d_Ranking_takeCandidates_67 rfl (lv_at hl 0 rfl) ?_
      refine g_getI C hP gl_Ranking_53 rfl rfl d_Ranking_takeCandidates_68 ?_
      refine lv_aload_n hx hb d_Ranking_takeCandidates_71 rfl (lv_at hl 1 rfl) ?_
      refine lv_iload_n hx hb d_Ranking_takeCandidates_72 rfl (lv_at hl 2 rfl) ?_
      obtain ⟨q73, hq73, hM⟩ := gb_some hM
      refine g_backI (g_runV (As := [.int x2]) C hP (c_Board_genesAt C.2.2.2.2.2.2.2.2.1 hq73) gi_Board_genesAt gm_Ranking_110 rfl rfl (by decide) (by decide) hl.1 rfl (Nat.le_of_ble_eq_true rfl) d_Ranking_takeCandidates_73) hS (fun H locs hP hS => ?_)
      obtain ⟨hi76, hM⟩ := gc_some hM
      obtain ⟨u76, e76, hM⟩ := gb_some hM
      refine g_iast C hP hS rfl hi76 d_Ranking_takeCandidates_76 (fun H locs hP hS => ?_)
      rw [Option.some.inj e76] at hP
      refine lv_aload_n hx hb d_Ranking_takeCandidates_77 rfl (lv_at hl 0 rfl) ?_
      refine lv_dup hx hb d_Ranking_takeCandidates_78 rfl ?_
      refine g_getI C hP gl_Ranking_53 rfl rfl d_Ranking_takeCandidates_79 ?_
      refine lv_iconst (v := (1 : Int32)) hx hb d_Ranking_takeCandidates_82 (by decide) ?_
      refine lv_iadd hx hb d_Ranking_takeCandidates_83 ?_
      obtain ⟨u84, e84, hM⟩ := gb_some hM
      refine g_putI C hP hS gl_Ranking_53 rfl rfl gq_6_12 d_Ranking_takeCandidates_84 (fun H locs hP hS => ?_)
      rw [Option.some.inj e84] at hP
      exact t_Ranking_takeCandidates_b87 C hM hN hE0 ls H locs (lv_sub hl [0, 1, 2] rfl) hP hS
noncomputable def M_Ranking_takeCandidates_L23 : (Int32 × gSt) → Option ((Int32 × gSt) ⊕ ((gSt))) := fun x => M_Ranking_takeCandidates_b23 x.1 x.2
theorem t_Ranking_takeCandidates_L23 (C : gX "TermDesk$Ranking" prog_8_method_5_code 3 none 4 88 R cells slots cy D ρ A p s m args meth c) {x2 : Int32} {u : gSt} {yy : (gSt)} (hL : gLp M_Ranking_takeCandidates_L23 (x2, u) = some yy) (hE0 : (∀ y', yy = y' → gAt p l e R s m args below meth c Q H0 cells slots cy D ρ A 3 93 [] [] (y'))) : gAt p l e R s m args below meth c Q H0 cells slots cy D ρ A 3 23 [(0, .ref (ρ 27)), (1, .ref (ρ 4)), (2, .int x2)] [] u :=
  g_loop (f := M_Ranking_takeCandidates_L23) (P := fun x => gAt p l e R s m args below meth c Q H0 cells slots cy D ρ A 3 23 [(0, .ref (ρ 27)), (1, .ref (ρ 4)), (2, .int x.1)] [] x.2) (E := fun yy => (∀ y', yy = y' → gAt p l e R s m args below meth c Q H0 cells slots cy D ρ A 3 93 [] [] (y'))) (fun x z hf hN hE => t_Ranking_takeCandidates_b23 C hf (fun x2' u' h => hN (x2', u') h) (fun u' h => (hE _ h) u' rfl)) hL hE0
noncomputable def M_Ranking_takeCandidates (u : gSt) : Option (gSt) :=
  (M_Board_genes u).bind fun q2 =>
  (some (gsF q2.2 27 10 q2.1)).bind fun u5 =>
  (M_Board_studied u5).bind fun q10 =>
  (some (gsF q10.2 27 11 q10.1)).bind fun u13 =>
  (some (gsF u13 27 12 (0 : Int32))).bind fun u18 =>
  (gLp M_Ranking_takeCandidates_L23 ((0 : Int32), u18)).bind fun y23 =>
  some y23
set_option maxHeartbeats 4000000 in
set_option maxRecDepth 100000 in
theorem t_Ranking_takeCandidates (C : gX "TermDesk$Ranking" prog_8_method_5_code 3 none 4 88 R cells slots cy D ρ A p s m args meth c) {u : gSt} {z : gSt} (hM : M_Ranking_takeCandidates u = some z) (hR : gRtV p l e R s m args below meth c Q H0 cells slots cy D ρ A prog_8_method_5_code z) : gAt p l e R s m args below meth c Q H0 cells slots cy D ρ A 3 0 [(0, .ref (ρ 27)), (1, .ref (ρ 4))] [] u := by
  intro ls H locs hl hP hS
  have hx := C.1
  have hb := C.2.1
  unfold M_Ranking_takeCandidates at hM
  refine lv_aload_n hx hb d_Ranking_takeCandidates_0 rfl (lv_at hl 0 rfl) ?_
  refine lv_aload_n hx hb d_Ranking_takeCandidates_1 rfl (lv_at hl 1 rfl) ?_
  obtain ⟨q2, hq2, hM⟩ := gb_some hM
  refine g_backI (g_runV (As := []) C hP (c_Board_genes C.2.2.2.2.2.2.2.2.1 hq2) gi_Board_genes gm_Ranking_92 rfl rfl (by decide) (by decide) hl.1 rfl (Nat.le_of_ble_eq_true rfl) d_Ranking_takeCandidates_2) hS (fun H locs hP hS => ?_)
  obtain ⟨u5, e5, hM⟩ := gb_some hM
  refine g_putI C hP hS gl_Ranking_46 rfl rfl gq_6_10 d_Ranking_takeCandidates_5 (fun H locs hP hS => ?_)
  rw [Option.some.inj e5] at hP
  refine lv_aload_n hx hb d_Ranking_takeCandidates_8 rfl (lv_at hl 0 rfl) ?_
  refine lv_aload_n hx hb d_Ranking_takeCandidates_9 rfl (lv_at hl 1 rfl) ?_
  obtain ⟨q10, hq10, hM⟩ := gb_some hM
  refine g_backI (g_runV (As := []) C hP (c_Board_studied C.2.2.2.2.2.2.2.2.1 hq10) gi_Board_studied gm_Ranking_97 rfl rfl (by decide) (by decide) hl.1 rfl (Nat.le_of_ble_eq_true rfl) d_Ranking_takeCandidates_10) hS (fun H locs hP hS => ?_)
  obtain ⟨u13, e13, hM⟩ := gb_some hM
  refine g_putI C hP hS gl_Ranking_50 rfl rfl gq_6_11 d_Ranking_takeCandidates_13 (fun H locs hP hS => ?_)
  rw [Option.some.inj e13] at hP
  refine lv_aload_n hx hb d_Ranking_takeCandidates_16 rfl (lv_at hl 0 rfl) ?_
  refine lv_iconst (v := (0 : Int32)) hx hb d_Ranking_takeCandidates_17 (by decide) ?_
  obtain ⟨u18, e18, hM⟩ := gb_some hM
  refine g_putI C hP hS gl_Ranking_53 rfl rfl gq_6_12 d_Ranking_takeCandidates_18 (fun H locs hP hS => ?_)
  rw [Option.some.inj e18] at hP
  refine lv_iconst (v := (0 : Int32)) hx hb d_Ranking_takeCandidates_21 (by decide) ?_
  refine lv_istore_n (lv' := [(2, .int (0 : Int32)), (0, .ref (ρ 27)), (1, .ref (ρ 4))]) hx hb d_Ranking_takeCandidates_22 rfl hl (by decide) rfl (fun ls hl => ?_)
  obtain ⟨y23, hL23, hM⟩ := gb_some hM
  refine t_Ranking_takeCandidates_L23 C hL23 (fun y23_0 hy => ?_) ls H locs (lv_sub hl [1, 2, 0] rfl) hP hS
  · subst hy
    intro ls H locs hl hP hS
    obtain rfl := Option.some.inj hM
    exact hR _ ls H locs d_Ranking_takeCandidates_93 hP hS
theorem c_Ranking_takeCandidates {l : Launch} {cy : Nat → ClassId} {D : va_G} {ρ : Nat → Nat} {A : Nat → Prop} (hD : gD ρ A) {u : gSt} {z : gSt} (hM : M_Ranking_takeCandidates u = some z) : gCtV l y_Ranking_takeCandidates prog_8_method_5_code 3 none 4 88 cy D ρ A [.ref (ρ 27), .ref (ρ 4)] u z :=
  g_met (by decide) hD (Nat.le_of_ble_eq_true rfl) (fun p e s m below meth c ls X hl hP => t_Ranking_takeCandidates X hM (fun pc ls H locs hd hP hS => g_vret X hP hS hd) ls _ [] hl hP va_S.rf)
end
section
variable {p : Program} {l : Launch} {e : Env} {R : Room} {s : State} {m : MethodId} {args : Array Value} {below : List Frame} {meth : Method} {c : Code} {Q : State → Prop} {H0 : Heap} {cells slots : Nat} {cy : Nat → ClassId} {D : va_G} {ρ : Nat → Nat} {A : Nat → Prop}
def y_Ranking_sumWays : MethodName := ⟨"TermDesk$Ranking", "sumWays", "([III)V"⟩
theorem gi_Ranking_sumWays : gMi y_Ranking_sumWays prog_8_method_7_code 6 none 3 6 := ⟨(gWs_at 906 (by decide +kernel) (by decide +kernel)), (gWs_at 905 (by decide +kernel) (by decide +kernel)), (gWs_at 48 (by decide +kernel) (by decide +kernel)), (gWs_at 123 (by decide +kernel) (by decide +kernel)), ⟨by decide +kernel, by decide +kernel, by decide +kernel⟩, _, _, rfl⟩
theorem gm_Ranking_117 : gMk "TermDesk$Ranking" 117 y_Ranking_sumWays := Or.inl (gWs_at 903 (by decide +kernel) (by decide +kernel))
theorem d_Ranking_sumWays_0 : decode prog_8_method_7_code 0 = .ok (.aload_n 0, 1) := by decide +kernel
theorem d_Ranking_sumWays_1 : decode prog_8_method_7_code 1 = .ok (.getfield 40, 3) := by decide +kernel
theorem d_Ranking_sumWays_4 : decode prog_8_method_7_code 4 = .ok (.iconst 1, 1) := by decide +kernel
theorem d_Ranking_sumWays_5 : decode prog_8_method_7_code 5 = .ok (.invokestatic 63, 3) := by decide +kernel
theorem d_Ranking_sumWays_8 : decode prog_8_method_7_code 8 = .ok (.aload_n 0, 1) := by decide +kernel
theorem d_Ranking_sumWays_9 : decode prog_8_method_7_code 9 = .ok (.getfield 40, 3) := by decide +kernel
theorem d_Ranking_sumWays_12 : decode prog_8_method_7_code 12 = .ok (.iload_n 2, 1) := by decide +kernel
theorem d_Ranking_sumWays_13 : decode prog_8_method_7_code 13 = .ok (.iload_n 3, 1) := by decide +kernel
theorem d_Ranking_sumWays_14 : decode prog_8_method_7_code 14 = .ok (.invokestatic 67, 3) := by decide +kernel
theorem d_Ranking_sumWays_17 : decode prog_8_method_7_code 17 = .ok (.aload_n 0, 1) := by decide +kernel
theorem d_Ranking_sumWays_18 : decode prog_8_method_7_code 18 = .ok (.getfield 40, 3) := by decide +kernel
theorem d_Ranking_sumWays_21 : decode prog_8_method_7_code 21 = .ok (.aload_n 0, 1) := by decide +kernel
theorem d_Ranking_sumWays_22 : decode prog_8_method_7_code 22 = .ok (.getfield 46, 3) := by decide +kernel
theorem d_Ranking_sumWays_25 : decode prog_8_method_7_code 25 = .ok (.iload_n 2, 1) := by decide +kernel
theorem d_Ranking_sumWays_26 : decode prog_8_method_7_code 26 = .ok (.isub, 1) := by decide +kernel
theorem d_Ranking_sumWays_27 : decode prog_8_method_7_code 27 = .ok (.aload_n 0, 1) := by decide +kernel
theorem d_Ranking_sumWays_28 : decode prog_8_method_7_code 28 = .ok (.getfield 50, 3) := by decide +kernel
theorem d_Ranking_sumWays_31 : decode prog_8_method_7_code 31 = .ok (.iload_n 3, 1) := by decide +kernel
theorem d_Ranking_sumWays_32 : decode prog_8_method_7_code 32 = .ok (.isub, 1) := by decide +kernel
theorem d_Ranking_sumWays_33 : decode prog_8_method_7_code 33 = .ok (.invokestatic 67, 3) := by decide +kernel
theorem d_Ranking_sumWays_36 : decode prog_8_method_7_code 36 = .ok (.aload_n 0, 1) := by decide +kernel
theorem d_Ranking_sumWays_37 : decode prog_8_method_7_code 37 = .ok (.getfield 40, 3) := by decide +kernel
theorem d_Ranking_sumWays_40 : decode prog_8_method_7_code 40 = .ok (.aload_n 1, 1) := by decide +kernel
theorem d_Ranking_sumWays_41 : decode prog_8_method_7_code 41 = .ok (.invokestatic 113, 3) := by decide +kernel
theorem d_Ranking_sumWays_44 : decode prog_8_method_7_code 44 = .ok (.iload_n 2, 1) := by decide +kernel
theorem d_Ranking_sumWays_45 : decode prog_8_method_7_code 45 = .ok (.aload_n 0, 1) := by decide +kernel
theorem d_Ranking_sumWays_46 : decode prog_8_method_7_code 46 = .ok (.getfield 50, 3) := by decide +kernel
theorem d_Ranking_sumWays_49 : decode prog_8_method_7_code 49 = .ok (.invokestatic 120, 3) := by decide +kernel
theorem d_Ranking_sumWays_52 : decode prog_8_method_7_code 52 = .ok (.istore 4, 2) := by decide +kernel
theorem d_Ranking_sumWays_54 : decode prog_8_method_7_code 54 = .ok (.iload_n 3, 1) := by decide +kernel
theorem d_Ranking_sumWays_55 : decode prog_8_method_7_code 55 = .ok (.istore 5, 2) := by decide +kernel
theorem d_Ranking_sumWays_57 : decode prog_8_method_7_code 57 = .ok (.iload 5, 2) := by decide +kernel
theorem d_Ranking_sumWays_59 : decode prog_8_method_7_code 59 = .ok (.iload 4, 2) := by decide +kernel
theorem d_Ranking_sumWays_61 : decode prog_8_method_7_code 61 = .ok (.if_icmp .ge 64, 3) := by decide +kernel
theorem d_Ranking_sumWays_64 : decode prog_8_method_7_code 64 = .ok (.aload_n 0, 1) := by decide +kernel
theorem d_Ranking_sumWays_65 : decode prog_8_method_7_code 65 = .ok (.getfield 40, 3) := by decide +kernel
theorem d_Ranking_sumWays_68 : decode prog_8_method_7_code 68 = .ok (.iload_n 2, 1) := by decide +kernel
theorem d_Ranking_sumWays_69 : decode prog_8_method_7_code 69 = .ok (.iload 5, 2) := by decide +kernel
theorem d_Ranking_sumWays_71 : decode prog_8_method_7_code 71 = .ok (.isub, 1) := by decide +kernel
theorem d_Ranking_sumWays_72 : decode prog_8_method_7_code 72 = .ok (.aload_n 0, 1) := by decide +kernel
theorem d_Ranking_sumWays_73 : decode prog_8_method_7_code 73 = .ok (.getfield 50, 3) := by decide +kernel
theorem d_Ranking_sumWays_76 : decode prog_8_method_7_code 76 = .ok (.iload 5, 2) := by decide +kernel
theorem d_Ranking_sumWays_78 : decode prog_8_method_7_code 78 = .ok (.isub, 1) := by decide +kernel
theorem d_Ranking_sumWays_79 : decode prog_8_method_7_code 79 = .ok (.imul, 1) := by decide +kernel
theorem d_Ranking_sumWays_80 : decode prog_8_method_7_code 80 = .ok (.invokestatic 125, 3) := by decide +kernel
theorem d_Ranking_sumWays_83 : decode prog_8_method_7_code 83 = .ok (.aload_n 0, 1) := by decide +kernel
theorem d_Ranking_sumWays_84 : decode prog_8_method_7_code 84 = .ok (.getfield 40, 3) := by decide +kernel
theorem d_Ranking_sumWays_87 : decode prog_8_method_7_code 87 = .ok (.iload 5, 2) := by decide +kernel
theorem d_Ranking_sumWays_89 : decode prog_8_method_7_code 89 = .ok (.iconst 1, 1) := by decide +kernel
theorem d_Ranking_sumWays_90 : decode prog_8_method_7_code 90 = .ok (.iadd, 1) := by decide +kernel
theorem d_Ranking_sumWays_91 : decode prog_8_method_7_code 91 = .ok (.aload_n 0, 1) := by decide +kernel
theorem d_Ranking_sumWays_92 : decode prog_8_method_7_code 92 = .ok (.getfield 46, 3) := by decide +kernel
theorem d_Ranking_sumWays_95 : decode prog_8_method_7_code 95 = .ok (.iload_n 2, 1) := by decide +kernel
theorem d_Ranking_sumWays_96 : decode prog_8_method_7_code 96 = .ok (.isub, 1) := by decide +kernel
theorem d_Ranking_sumWays_97 : decode prog_8_method_7_code 97 = .ok (.aload_n 0, 1) := by decide +kernel
theorem d_Ranking_sumWays_98 : decode prog_8_method_7_code 98 = .ok (.getfield 50, 3) := by decide +kernel
theorem d_Ranking_sumWays_101 : decode prog_8_method_7_code 101 = .ok (.isub, 1) := by decide +kernel
theorem d_Ranking_sumWays_102 : decode prog_8_method_7_code 102 = .ok (.iload 5, 2) := by decide +kernel
theorem d_Ranking_sumWays_104 : decode prog_8_method_7_code 104 = .ok (.iadd, 1) := by decide +kernel
theorem d_Ranking_sumWays_105 : decode prog_8_method_7_code 105 = .ok (.iconst 1, 1) := by decide +kernel
theorem d_Ranking_sumWays_106 : decode prog_8_method_7_code 106 = .ok (.iadd, 1) := by decide +kernel
theorem d_Ranking_sumWays_107 : decode prog_8_method_7_code 107 = .ok (.imul, 1) := by decide +kernel
theorem d_Ranking_sumWays_108 : decode prog_8_method_7_code 108 = .ok (.invokestatic 128, 3) := by decide +kernel
theorem d_Ranking_sumWays_111 : decode prog_8_method_7_code 111 = .ok (.aload_n 1, 1) := by decide +kernel
theorem d_Ranking_sumWays_112 : decode prog_8_method_7_code 112 = .ok (.aload_n 0, 1) := by decide +kernel
theorem d_Ranking_sumWays_113 : decode prog_8_method_7_code 113 = .ok (.getfield 40, 3) := by decide +kernel
theorem d_Ranking_sumWays_116 : decode prog_8_method_7_code 116 = .ok (.invokestatic 131, 3) := by decide +kernel
theorem d_Ranking_sumWays_119 : decode prog_8_method_7_code 119 = .ok (.iinc 5 1, 3) := by decide +kernel
theorem d_Ranking_sumWays_122 : decode prog_8_method_7_code 122 = .ok (.goto (-65), 3) := by decide +kernel
theorem d_Ranking_sumWays_125 : decode prog_8_method_7_code 125 = .ok (.return_, 1) := by decide +kernel
noncomputable def M_Ranking_sumWays_b57 (a1 : Nat) (x2 : Int32) (x4 : Int32) (x5 : Int32) (u : gSt) : Option ((Nat × Int32 × Int32 × Int32 × gSt) ⊕ ((gSt))) :=
  if x4 ≤ x5 then
    (some (.inr u))
  else
    ((M_Wide_multiply 36 ((x2 - x5) * ((u.1 27 11) - x5)) u).bind fun q80 =>
    (M_Wide_divide 36 ((x5 + (1 : Int32)) * (((((q80.1 27 10) - x2) - (q80.1 27 11)) + x5) + (1 : Int32))) q80).bind fun q108 =>
    (M_Wide_add a1 36 q108).bind fun q116 =>
    some (.inl (a1, x2, x4, x5 + (1 : Int32), q116)))
set_option maxHeartbeats 4000000 in
set_option maxRecDepth 100000 in
theorem t_Ranking_sumWays_b57 (C : gX "TermDesk$Ranking" prog_8_method_7_code 6 none 2 81 R cells slots cy D ρ A p s m args meth c) {a1 : Nat} {x2 : Int32} {x4 : Int32} {x5 : Int32} {u : gSt} {z : (Nat × Int32 × Int32 × Int32 × gSt) ⊕ ((gSt))} (hM : M_Ranking_sumWays_b57 a1 x2 x4 x5 u = some z) (hN : ∀ a1' x2' x4' x5' u', z = .inl (a1', x2', x4', x5', u') → gAt p l e R s m args below meth c Q H0 cells slots cy D ρ A 6 57 [(0, .ref (ρ 27)), (1, .ref (ρ (a1'))), (2, .int (x2')), (4, .int (x4')), (5, .int (x5'))] [] (u')) (hE0 : ∀ u', z = .inr u' → gAt p l e R s m args below meth c Q H0 cells slots cy D ρ A 6 125 [] [] (u')) : gAt p l e R s m args below meth c Q H0 cells slots cy D ρ A 6 57 [(0, .ref (ρ 27)), (1, .ref (ρ a1)), (2, .int x2), (4, .int x4), (5, .int x5)] [] u := by
  intro ls H locs hl hP hS
  have hx := C.1
  have hb := C.2.1
  unfold M_Ranking_sumWays_b57 at hM
  refine lv_iload hx hb d_Ranking_sumWays_57 (lv_at hl 4 rfl) ?_
  refine lv_iload hx hb d_Ranking_sumWays_59 (lv_at hl 3 rfl) ?_
  refine lv_icmp_ge (tgt := 125) hx hb d_Ranking_sumWays_61 (by decide) (fun hc61 => ?_) (fun hc61 => ?_)
  · replace hM := gi_t hc61 hM
    exact hE0 _ (Option.some.inj hM).symm ls H locs (lv_sub hl [] rfl) hP hS
  · replace hM := gi_f hc61 hM
    refine lv_aload_n hx hb d_Ranking_sumWays_64 rfl (lv_at hl 0 rfl) ?_
    refine g_getR (b := 36) C hP gl_Ranking_40 rfl rfl rfl d_Ranking_sumWays_65 ?_
    refine lv_iload_n hx hb d_Ranking_sumWays_68 rfl (lv_at hl 2 rfl) ?_
    refine lv_iload hx hb d_Ranking_sumWays_69 (lv_at hl 4 rfl) ?_
    refine lv_isub hx hb d_Ranking_sumWays_71 ?_
    refine lv_aload_n hx hb d_Ranking_sumWays_72 rfl (lv_at hl 0 rfl) ?_
    refine g_getI C hP gl_Ranking_50 rfl rfl d_Ranking_sumWays_73 ?_
    refine lv_iload hx hb d_Ranking_sumWays_76 (lv_at hl 4 rfl) ?_
    refine lv_isub hx hb d_Ranking_sumWays_78 ?_
    refine lv_imul hx hb d_Ranking_sumWays_79 ?_
    obtain ⟨q80, hq80, hM⟩ := gb_some hM
    refine g_backV (g_runS (As := [.ref (ρ 36), .int ((x2 - x5) * ((u.1 27 11) - x5))]) C hP (c_Wide_multiply C.2.2.2.2.2.2.2.2.1 hq80) gi_Wide_multiply gm_Ranking_125 rfl (by decide) (by decide) hl.1 rfl (Nat.le_of_ble_eq_true rfl) d_Ranking_sumWays_80) hS (fun H locs hP hS => ?_)
    refine lv_aload_n hx hb d_Ranking_sumWays_83 rfl (lv_at hl 0 rfl) ?_
    refine g_getR (b := 36) C hP gl_Ranking_40 rfl rfl rfl d_Ranking_sumWays_84 ?_
    refine lv_iload hx hb d_Ranking_sumWays_87 (lv_at hl 4 rfl) ?_
    refine lv_iconst (v := (1 : Int32)) hx hb d_Ranking_sumWays_89 (by decide) ?_
    refine lv_iadd hx hb d_Ranking_sumWays_90 ?_
    refine lv_aload_n hx hb d_Ranking_sumWays_91 rfl (lv_at hl 0 rfl) ?_
    refine g_getI C hP gl_Ranking_46 rfl rfl d_Ranking_sumWays_92 ?_
    refine lv_iload_n hx hb d_Ranking_sumWays_95 rfl (lv_at hl 2 rfl) ?_
    refine lv_isub hx hb d_Ranking_sumWays_96 ?_
    refine lv_aload_n hx hb d_Ranking_sumWays_97 rfl (lv_at hl 0 rfl) ?_
    refine g_getI C hP gl_Ranking_50 rfl rfl d_Ranking_sumWays_98 ?_
    refine lv_isub hx hb d_Ranking_sumWays_101 ?_
    refine lv_iload hx hb d_Ranking_sumWays_102 (lv_at hl 4 rfl) ?_
    refine lv_iadd hx hb d_Ranking_sumWays_104 ?_
    refine lv_iconst (v := (1 : Int32)) hx hb d_Ranking_sumWays_105 (by decide) ?_
    refine lv_iadd hx hb d_Ranking_sumWays_106 ?_
    refine lv_imul hx hb d_Ranking_sumWays_107 ?_
    obtain ⟨q108, hq108, hM⟩ := gb_some hM
    refine g_backV (g_runS (As := [.ref (ρ 36), .int ((x5 + (1 : Int32)) * (((((q80.1 27 10) - x2) - (q80.1 27 11)) + x5) + (1 : Int32)))]) C hP (c_Wide_divide C.2.2.2.2.2.2.2.2.1 hq108) gi_Wide_divide gm_Ranking_128 rfl (by decide) (by decide) hl.1 rfl (Nat.le_of_ble_eq_true rfl) d_Ranking_sumWays_108) hS (fun H locs hP hS => ?_)
    refine lv_aload_n hx hb d_Ranking_sumWays_111 rfl (lv_at hl 1 rfl) ?_
    refine lv_aload_n hx hb d_Ranking_sumWays_112 rfl (lv_at hl 0 rfl) ?_
    refine g_getR (b := 36) C hP gl_Ranking_40 rfl rfl rfl d_Ranking_sumWays_113 ?_
    obtain ⟨q116, hq116, hM⟩ := gb_some hM
    refine g_backV (g_runS (As := [.ref (ρ a1), .ref (ρ 36)]) C hP (c_Wide_add C.2.2.2.2.2.2.2.2.1 hq116) gi_Wide_add gm_Ranking_131 rfl (by decide) (by decide) hl.1 rfl (Nat.le_of_ble_eq_true rfl) d_Ranking_sumWays_116) hS (fun H locs hP hS => ?_)
    refine lv_iinc (k := 4) (v := x5 + (1 : Int32)) (lv' := [(5, .int (x5 + (1 : Int32))), (0, .ref (ρ 27)), (1, .ref (ρ a1)), (2, .int x2), (4, .int x4)]) hx hb d_Ranking_sumWays_119 hl rfl (congrArg (fun z => x5 + z) (by decide)) (by decide) rfl (fun ls hl => ?_)
    refine lv_goto (tgt := 57) hx hb d_Ranking_sumWays_122 (by decide) ?_
    exact hN _ _ _ _ _ (Option.some.inj hM).symm ls H locs (lv_sub hl [1, 2, 3, 4, 0] rfl) hP hS
noncomputable def M_Ranking_sumWays_L57 : (Nat × Int32 × Int32 × Int32 × gSt) → Option ((Nat × Int32 × Int32 × Int32 × gSt) ⊕ ((gSt))) := fun x => M_Ranking_sumWays_b57 x.1 x.2.1 x.2.2.1 x.2.2.2.1 x.2.2.2.2
theorem t_Ranking_sumWays_L57 (C : gX "TermDesk$Ranking" prog_8_method_7_code 6 none 2 81 R cells slots cy D ρ A p s m args meth c) {a1 : Nat} {x2 : Int32} {x4 : Int32} {x5 : Int32} {u : gSt} {yy : (gSt)} (hL : gLp M_Ranking_sumWays_L57 (a1, x2, x4, x5, u) = some yy) (hE0 : (∀ y', yy = y' → gAt p l e R s m args below meth c Q H0 cells slots cy D ρ A 6 125 [] [] (y'))) : gAt p l e R s m args below meth c Q H0 cells slots cy D ρ A 6 57 [(0, .ref (ρ 27)), (1, .ref (ρ a1)), (2, .int x2), (4, .int x4), (5, .int x5)] [] u :=
  g_loop (f := M_Ranking_sumWays_L57) (P := fun x => gAt p l e R s m args below meth c Q H0 cells slots cy D ρ A 6 57 [(0, .ref (ρ 27)), (1, .ref (ρ x.1)), (2, .int x.2.1), (4, .int x.2.2.1), (5, .int x.2.2.2.1)] [] x.2.2.2.2) (E := fun yy => (∀ y', yy = y' → gAt p l e R s m args below meth c Q H0 cells slots cy D ρ A 6 125 [] [] (y'))) (fun x z hf hN hE => t_Ranking_sumWays_b57 C hf (fun a1' x2' x4' x5' u' h => hN (a1', x2', x4', x5', u') h) (fun u' h => (hE _ h) u' rfl)) hL hE0
noncomputable def M_Ranking_sumWays (a1 : Nat) (x2 : Int32) (x3 : Int32) (u : gSt) : Option (gSt) :=
  (M_Wide_set 36 (1 : Int32) u).bind fun q5 =>
  (M_Wide_multiplyByChoices 36 x2 x3 q5).bind fun q14 =>
  (M_Wide_multiplyByChoices 36 ((q14.1 27 10) - x2) ((q14.1 27 11) - x3) q14).bind fun q33 =>
  (M_Wide_copy 36 a1 q33).bind fun q41 =>
  (gLp M_Ranking_sumWays_L57 (a1, x2, if (q41.1 27 11) < x2 then (q41.1 27 11) else x2, x3, q41)).bind fun y57 =>
  some y57
set_option maxHeartbeats 4000000 in
set_option maxRecDepth 100000 in
theorem t_Ranking_sumWays (C : gX "TermDesk$Ranking" prog_8_method_7_code 6 none 2 81 R cells slots cy D ρ A p s m args meth c) {a1 : Nat} {x2 : Int32} {x3 : Int32} {u : gSt} {z : gSt} (hM : M_Ranking_sumWays a1 x2 x3 u = some z) (hR : gRtV p l e R s m args below meth c Q H0 cells slots cy D ρ A prog_8_method_7_code z) : gAt p l e R s m args below meth c Q H0 cells slots cy D ρ A 6 0 [(0, .ref (ρ 27)), (1, .ref (ρ a1)), (2, .int x2), (3, .int x3)] [] u := by
  intro ls H locs hl hP hS
  have hx := C.1
  have hb := C.2.1
  unfold M_Ranking_sumWays at hM
  refine lv_aload_n hx hb d_Ranking_sumWays_0 rfl (lv_at hl 0 rfl) ?_
  refine g_getR (b := 36) C hP gl_Ranking_40 rfl rfl rfl d_Ranking_sumWays_1 ?_
  refine lv_iconst (v := (1 : Int32)) hx hb d_Ranking_sumWays_4 (by decide) ?_
  obtain ⟨q5, hq5, hM⟩ := gb_some hM
  refine g_backV (g_runS (As := [.ref (ρ 36), .int (1 : Int32)]) C hP (c_Wide_set C.2.2.2.2.2.2.2.2.1 hq5) gi_Wide_set gm_Ranking_63 rfl (by decide) (by decide) hl.1 rfl (Nat.le_of_ble_eq_true rfl) d_Ranking_sumWays_5) hS (fun H locs hP hS => ?_)
  refine lv_aload_n hx hb d_Ranking_sumWays_8 rfl (lv_at hl 0 rfl) ?_
  refine g_getR (b := 36) C hP gl_Ranking_40 rfl rfl rfl d_Ranking_sumWays_9 ?_
  refine lv_iload_n hx hb d_Ranking_sumWays_12 rfl (lv_at hl 2 rfl) ?_
  refine lv_iload_n hx hb d_Ranking_sumWays_13 rfl (lv_at hl 3 rfl) ?_
  obtain ⟨q14, hq14, hM⟩ := gb_some hM
  refine g_backV (g_runS (As := [.ref (ρ 36), .int x2, .int x3]) C hP (c_Wide_multiplyByChoices C.2.2.2.2.2.2.2.2.1 hq14) gi_Wide_multiplyByChoices gm_Ranking_67 rfl (by decide) (by decide) hl.1 rfl (Nat.le_of_ble_eq_true rfl) d_Ranking_sumWays_14) hS (fun H locs hP hS => ?_)
  refine lv_aload_n hx hb d_Ranking_sumWays_17 rfl (lv_at hl 0 rfl) ?_
  refine g_getR (b := 36) C hP gl_Ranking_40 rfl rfl rfl d_Ranking_sumWays_18 ?_
  refine lv_aload_n hx hb d_Ranking_sumWays_21 rfl (lv_at hl 0 rfl) ?_
  refine g_getI C hP gl_Ranking_46 rfl rfl d_Ranking_sumWays_22 ?_
  refine lv_iload_n hx hb d_Ranking_sumWays_25 rfl (lv_at hl 2 rfl) ?_
  refine lv_isub hx hb d_Ranking_sumWays_26 ?_
  refine lv_aload_n hx hb d_Ranking_sumWays_27 rfl (lv_at hl 0 rfl) ?_
  refine g_getI C hP gl_Ranking_50 rfl rfl d_Ranking_sumWays_28 ?_
  refine lv_iload_n hx hb d_Ranking_sumWays_31 rfl (lv_at hl 3 rfl) ?_
  refine lv_isub hx hb d_Ranking_sumWays_32 ?_
  obtain ⟨q33, hq33, hM⟩ := gb_some hM
  refine g_backV (g_runS (As := [.ref (ρ 36), .int ((q14.1 27 10) - x2), .int ((q14.1 27 11) - x3)]) C hP (c_Wide_multiplyByChoices C.2.2.2.2.2.2.2.2.1 hq33) gi_Wide_multiplyByChoices gm_Ranking_67 rfl (by decide) (by decide) hl.1 rfl (Nat.le_of_ble_eq_true rfl) d_Ranking_sumWays_33) hS (fun H locs hP hS => ?_)
  refine lv_aload_n hx hb d_Ranking_sumWays_36 rfl (lv_at hl 0 rfl) ?_
  refine g_getR (b := 36) C hP gl_Ranking_40 rfl rfl rfl d_Ranking_sumWays_37 ?_
  refine lv_aload_n hx hb d_Ranking_sumWays_40 rfl (lv_at hl 1 rfl) ?_
  obtain ⟨q41, hq41, hM⟩ := gb_some hM
  refine g_backV (g_runS (As := [.ref (ρ 36), .ref (ρ a1)]) C hP (c_Wide_copy C.2.2.2.2.2.2.2.2.1 hq41) gi_Wide_copy gm_Ranking_113 rfl (by decide) (by decide) hl.1 rfl (Nat.le_of_ble_eq_true rfl) d_Ranking_sumWays_41) hS (fun H locs hP hS => ?_)
  refine lv_iload_n hx hb d_Ranking_sumWays_44 rfl (lv_at hl 2 rfl) ?_
  refine lv_aload_n hx hb d_Ranking_sumWays_45 rfl (lv_at hl 0 rfl) ?_
  refine g_getI C hP gl_Ranking_50 rfl rfl d_Ranking_sumWays_46 ?_
  refine g_min C (gWs_at 907 (by decide +kernel) (by decide +kernel)) hl.1 (Nat.le_of_ble_eq_true rfl) (by decide) (by decide) d_Ranking_sumWays_49 ?_
  refine lv_istore (lv' := [(4, .int (if (q41.1 27 11) < x2 then (q41.1 27 11) else x2)), (0, .ref (ρ 27)), (1, .ref (ρ a1)), (2, .int x2), (3, .int x3)]) hx hb d_Ranking_sumWays_52 hl (by decide) rfl (fun ls hl => ?_)
  refine lv_iload_n hx hb d_Ranking_sumWays_54 rfl (lv_at hl 4 rfl) ?_
  refine lv_istore (lv' := [(5, .int x3), (4, .int (if (q41.1 27 11) < x2 then (q41.1 27 11) else x2)), (0, .ref (ρ 27)), (1, .ref (ρ a1)), (2, .int x2), (3, .int x3)]) hx hb d_Ranking_sumWays_55 hl (by decide) rfl (fun ls hl => ?_)
  obtain ⟨y57, hL57, hM⟩ := gb_some hM
  refine t_Ranking_sumWays_L57 C hL57 (fun y57_0 hy => ?_) ls H locs (lv_sub hl [2, 3, 4, 1, 0] rfl) hP hS
  · subst hy
    intro ls H locs hl hP hS
    obtain rfl := Option.some.inj hM
    exact hR _ ls H locs d_Ranking_sumWays_125 hP hS
theorem c_Ranking_sumWays {l : Launch} {cy : Nat → ClassId} {D : va_G} {ρ : Nat → Nat} {A : Nat → Prop} (hD : gD ρ A) {a1 : Nat} {x2 : Int32} {x3 : Int32} {u : gSt} {z : gSt} (hM : M_Ranking_sumWays a1 x2 x3 u = some z) : gCtV l y_Ranking_sumWays prog_8_method_7_code 6 none 2 81 cy D ρ A [.ref (ρ 27), .ref (ρ a1), .int x2, .int x3] u z :=
  g_met (by decide) hD (Nat.le_of_ble_eq_true rfl) (fun p e s m below meth c ls X hl hP => t_Ranking_sumWays X hM (fun pc ls H locs hd hP hS => g_vret X hP hS hd) ls _ [] hl hP va_S.rf)
end
section
variable {p : Program} {l : Launch} {e : Env} {R : Room} {s : State} {m : MethodId} {args : Array Value} {below : List Frame} {meth : Method} {c : Code} {Q : State → Prop} {H0 : Heap} {cells slots : Nat} {cy : Nat → ClassId} {D : va_G} {ρ : Nat → Nat} {A : Nat → Prop}
def y_Ranking_reckonChance : MethodName := ⟨"TermDesk$Ranking", "reckonChance", "(I)V"⟩
theorem gi_Ranking_reckonChance : gMi y_Ranking_reckonChance prog_8_method_6_code 4 none 1 6 := ⟨(gWs_at 893 (by decide +kernel) (by decide +kernel)), (gWs_at 892 (by decide +kernel) (by decide +kernel)), (gWs_at 47 (by decide +kernel) (by decide +kernel)), (gWs_at 123 (by decide +kernel) (by decide +kernel)), ⟨by decide +kernel, by decide +kernel, by decide +kernel⟩, _, _, rfl⟩
theorem gm_Ranking_71 : gMk "TermDesk$Ranking" 71 y_Ranking_reckonChance := Or.inl (gWs_at 890 (by decide +kernel) (by decide +kernel))
theorem d_Ranking_reckonChance_0 : decode prog_8_method_6_code 0 = .ok (.iconst 0, 1) := by decide +kernel
theorem d_Ranking_reckonChance_1 : decode prog_8_method_6_code 1 = .ok (.iload_n 1, 1) := by decide +kernel
theorem d_Ranking_reckonChance_2 : decode prog_8_method_6_code 2 = .ok (.invokestatic 78, 3) := by decide +kernel
theorem d_Ranking_reckonChance_5 : decode prog_8_method_6_code 5 = .ok (.istore_n 2, 1) := by decide +kernel
theorem d_Ranking_reckonChance_6 : decode prog_8_method_6_code 6 = .ok (.aload_n 0, 1) := by decide +kernel
theorem d_Ranking_reckonChance_7 : decode prog_8_method_6_code 7 = .ok (.getfield 28, 3) := by decide +kernel
theorem d_Ranking_reckonChance_10 : decode prog_8_method_6_code 10 = .ok (.iload_n 2, 1) := by decide +kernel
theorem d_Ranking_reckonChance_11 : decode prog_8_method_6_code 11 = .ok (.iconst 1, 1) := by decide +kernel
theorem d_Ranking_reckonChance_12 : decode prog_8_method_6_code 12 = .ok (.iastore, 1) := by decide +kernel
theorem d_Ranking_reckonChance_13 : decode prog_8_method_6_code 13 = .ok (.iconst 0, 1) := by decide +kernel
theorem d_Ranking_reckonChance_14 : decode prog_8_method_6_code 14 = .ok (.istore_n 3, 1) := by decide +kernel
theorem d_Ranking_reckonChance_15 : decode prog_8_method_6_code 15 = .ok (.iload_n 3, 1) := by decide +kernel
theorem d_Ranking_reckonChance_16 : decode prog_8_method_6_code 16 = .ok (.iload_n 1, 1) := by decide +kernel
theorem d_Ranking_reckonChance_17 : decode prog_8_method_6_code 17 = .ok (.if_icmp .ge 59, 3) := by decide +kernel
theorem d_Ranking_reckonChance_20 : decode prog_8_method_6_code 20 = .ok (.aload_n 0, 1) := by decide +kernel
theorem d_Ranking_reckonChance_21 : decode prog_8_method_6_code 21 = .ok (.getfield 15, 3) := by decide +kernel
theorem d_Ranking_reckonChance_24 : decode prog_8_method_6_code 24 = .ok (.iload_n 3, 1) := by decide +kernel
theorem d_Ranking_reckonChance_25 : decode prog_8_method_6_code 25 = .ok (.iaload, 1) := by decide +kernel
theorem d_Ranking_reckonChance_26 : decode prog_8_method_6_code 26 = .ok (.aload_n 0, 1) := by decide +kernel
theorem d_Ranking_reckonChance_27 : decode prog_8_method_6_code 27 = .ok (.getfield 15, 3) := by decide +kernel
theorem d_Ranking_reckonChance_30 : decode prog_8_method_6_code 30 = .ok (.iload_n 1, 1) := by decide +kernel
theorem d_Ranking_reckonChance_31 : decode prog_8_method_6_code 31 = .ok (.iaload, 1) := by decide +kernel
theorem d_Ranking_reckonChance_32 : decode prog_8_method_6_code 32 = .ok (.if_icmp .ne 38, 3) := by decide +kernel
theorem d_Ranking_reckonChance_35 : decode prog_8_method_6_code 35 = .ok (.aload_n 0, 1) := by decide +kernel
theorem d_Ranking_reckonChance_36 : decode prog_8_method_6_code 36 = .ok (.getfield 18, 3) := by decide +kernel
theorem d_Ranking_reckonChance_39 : decode prog_8_method_6_code 39 = .ok (.iload_n 3, 1) := by decide +kernel
theorem d_Ranking_reckonChance_40 : decode prog_8_method_6_code 40 = .ok (.iaload, 1) := by decide +kernel
theorem d_Ranking_reckonChance_41 : decode prog_8_method_6_code 41 = .ok (.aload_n 0, 1) := by decide +kernel
theorem d_Ranking_reckonChance_42 : decode prog_8_method_6_code 42 = .ok (.getfield 18, 3) := by decide +kernel
theorem d_Ranking_reckonChance_45 : decode prog_8_method_6_code 45 = .ok (.iload_n 1, 1) := by decide +kernel
theorem d_Ranking_reckonChance_46 : decode prog_8_method_6_code 46 = .ok (.iaload, 1) := by decide +kernel
theorem d_Ranking_reckonChance_47 : decode prog_8_method_6_code 47 = .ok (.if_icmp .ne 23, 3) := by decide +kernel
theorem d_Ranking_reckonChance_50 : decode prog_8_method_6_code 50 = .ok (.aload_n 0, 1) := by decide +kernel
theorem d_Ranking_reckonChance_51 : decode prog_8_method_6_code 51 = .ok (.getfield 25, 3) := by decide +kernel
theorem d_Ranking_reckonChance_54 : decode prog_8_method_6_code 54 = .ok (.iconst 0, 1) := by decide +kernel
theorem d_Ranking_reckonChance_55 : decode prog_8_method_6_code 55 = .ok (.iload_n 3, 1) := by decide +kernel
theorem d_Ranking_reckonChance_56 : decode prog_8_method_6_code 56 = .ok (.invokestatic 78, 3) := by decide +kernel
theorem d_Ranking_reckonChance_59 : decode prog_8_method_6_code 59 = .ok (.aaload, 1) := by decide +kernel
theorem d_Ranking_reckonChance_60 : decode prog_8_method_6_code 60 = .ok (.aload_n 0, 1) := by decide +kernel
theorem d_Ranking_reckonChance_61 : decode prog_8_method_6_code 61 = .ok (.getfield 25, 3) := by decide +kernel
theorem d_Ranking_reckonChance_64 : decode prog_8_method_6_code 64 = .ok (.iload_n 2, 1) := by decide +kernel
theorem d_Ranking_reckonChance_65 : decode prog_8_method_6_code 65 = .ok (.aaload, 1) := by decide +kernel
theorem d_Ranking_reckonChance_66 : decode prog_8_method_6_code 66 = .ok (.invokestatic 113, 3) := by decide +kernel
theorem d_Ranking_reckonChance_69 : decode prog_8_method_6_code 69 = .ok (.return_, 1) := by decide +kernel
theorem d_Ranking_reckonChance_70 : decode prog_8_method_6_code 70 = .ok (.iinc 3 1, 3) := by decide +kernel
theorem d_Ranking_reckonChance_73 : decode prog_8_method_6_code 73 = .ok (.goto (-58), 3) := by decide +kernel
theorem d_Ranking_reckonChance_76 : decode prog_8_method_6_code 76 = .ok (.aload_n 0, 1) := by decide +kernel
theorem d_Ranking_reckonChance_77 : decode prog_8_method_6_code 77 = .ok (.aload_n 0, 1) := by decide +kernel
theorem d_Ranking_reckonChance_78 : decode prog_8_method_6_code 78 = .ok (.getfield 25, 3) := by decide +kernel
theorem d_Ranking_reckonChance_81 : decode prog_8_method_6_code 81 = .ok (.iload_n 2, 1) := by decide +kernel
theorem d_Ranking_reckonChance_82 : decode prog_8_method_6_code 82 = .ok (.aaload, 1) := by decide +kernel
theorem d_Ranking_reckonChance_83 : decode prog_8_method_6_code 83 = .ok (.aload_n 0, 1) := by decide +kernel
theorem d_Ranking_reckonChance_84 : decode prog_8_method_6_code 84 = .ok (.getfield 18, 3) := by decide +kernel
theorem d_Ranking_reckonChance_87 : decode prog_8_method_6_code 87 = .ok (.iload_n 1, 1) := by decide +kernel
theorem d_Ranking_reckonChance_88 : decode prog_8_method_6_code 88 = .ok (.iaload, 1) := by decide +kernel
theorem d_Ranking_reckonChance_89 : decode prog_8_method_6_code 89 = .ok (.aload_n 0, 1) := by decide +kernel
theorem d_Ranking_reckonChance_90 : decode prog_8_method_6_code 90 = .ok (.getfield 15, 3) := by decide +kernel
theorem d_Ranking_reckonChance_93 : decode prog_8_method_6_code 93 = .ok (.iload_n 1, 1) := by decide +kernel
theorem d_Ranking_reckonChance_94 : decode prog_8_method_6_code 94 = .ok (.iaload, 1) := by decide +kernel
theorem d_Ranking_reckonChance_95 : decode prog_8_method_6_code 95 = .ok (.invokevirtual 117, 3) := by decide +kernel
theorem d_Ranking_reckonChance_98 : decode prog_8_method_6_code 98 = .ok (.return_, 1) := by decide +kernel
noncomputable def M_Ranking_reckonChance_b70 (x1 : Int32) (x2 : Int32) (x3 : Int32) (u : gSt) : Option ((Int32 × Int32 × Int32 × gSt) ⊕ ((Int32 × Int32 × gSt) ⊕ (Int32 × Int32 × gSt))) :=
  some (.inl (x1, x2, x3 + (1 : Int32), u))
set_option maxHeartbeats 4000000 in
set_option maxRecDepth 100000 in
theorem t_Ranking_reckonChance_b70 (C : gX "TermDesk$Ranking" prog_8_method_6_code 4 none 3 106 R cells slots cy D ρ A p s m args meth c) {x1 : Int32} {x2 : Int32} {x3 : Int32} {u : gSt} {z : (Int32 × Int32 × Int32 × gSt) ⊕ ((Int32 × Int32 × gSt) ⊕ (Int32 × Int32 × gSt))} (hM : M_Ranking_reckonChance_b70 x1 x2 x3 u = some z) (hN : ∀ x1' x2' x3' u', z = .inl (x1', x2', x3', u') → gAt p l e R s m args below meth c Q H0 cells slots cy D ρ A 4 15 [(0, .ref (ρ 27)), (1, .int (x1')), (2, .int (x2')), (3, .int (x3'))] [] (u')) (hE0 : ∀ x1' x2' u', z = .inr (.inl (x1', x2', u')) → gAt p l e R s m args below meth c Q H0 cells slots cy D ρ A 4 76 [(0, .ref (ρ 27)), (1, .int (x1')), (2, .int (x2'))] [] (u')) (hE1 : ∀ x2' x3' u', z = .inr (.inr (x2', x3', u')) → gAt p l e R s m args below meth c Q H0 cells slots cy D ρ A 4 50 [(0, .ref (ρ 27)), (2, .int (x2')), (3, .int (x3'))] [] (u')) : gAt p l e R s m args below meth c Q H0 cells slots cy D ρ A 4 70 [(0, .ref (ρ 27)), (1, .int x1), (2, .int x2), (3, .int x3)] [] u := by
  intro ls H locs hl hP hS
  have hx := C.1
  have hb := C.2.1
  unfold M_Ranking_reckonChance_b70 at hM
  refine lv_iinc (k := 3) (v := x3 + (1 : Int32)) (lv' := [(3, .int (x3 + (1 : Int32))), (0, .ref (ρ 27)), (1, .int x1), (2, .int x2)]) hx hb d_Ranking_reckonChance_70 hl rfl (congrArg (fun z => x3 + z) (by decide)) (by decide) rfl (fun ls hl => ?_)
  refine lv_goto (tgt := 15) hx hb d_Ranking_reckonChance_73 (by decide) ?_
  exact hN _ _ _ _ (Option.some.inj hM).symm ls H locs (lv_sub hl [1, 2, 3, 0] rfl) hP hS
noncomputable def M_Ranking_reckonChance_b15 (x1 : Int32) (x2 : Int32) (x3 : Int32) (u : gSt) : Option ((Int32 × Int32 × Int32 × gSt) ⊕ ((Int32 × Int32 × gSt) ⊕ (Int32 × Int32 × gSt))) :=
  if x1 ≤ x3 then
    (some (.inr (.inl (x1, x2, u))))
  else
    (gc (gIn x3 (gLen 29)) <| gc (gIn x1 (gLen 29)) <| if (u.2.2.1 29 (gIx x3)) = (u.2.2.1 29 (gIx x1)) then
      (gc (gIn x3 (gLen 30)) <| gc (gIn x1 (gLen 30)) <| if (u.2.2.1 30 (gIx x3)) = (u.2.2.1 30 (gIx x1)) then
        (some (.inr (.inr (x2, x3, u))))
      else
        (M_Ranking_reckonChance_b70 x1 x2 x3 u))
    else
      (M_Ranking_reckonChance_b70 x1 x2 x3 u))
set_option maxHeartbeats 4000000 in
set_option maxRecDepth 100000 in
theorem t_Ranking_reckonChance_b15 (C : gX "TermDesk$Ranking" prog_8_method_6_code 4 none 3 106 R cells slots cy D ρ A p s m args meth c) {x1 : Int32} {x2 : Int32} {x3 : Int32} {u : gSt} {z : (Int32 × Int32 × Int32 × gSt) ⊕ ((Int32 × Int32 × gSt) ⊕ (Int32 × Int32 × gSt))} (hM : M_Ranking_reckonChance_b15 x1 x2 x3 u = some z) (hN : ∀ x1' x2' x3' u', z = .inl (x1', x2', x3', u') → gAt p l e R s m args below meth c Q H0 cells slots cy D ρ A 4 15 [(0, .ref (ρ 27)), (1, .int (x1')), (2, .int (x2')), (3, .int (x3'))] [] (u')) (hE0 : ∀ x1' x2' u', z = .inr (.inl (x1', x2', u')) → gAt p l e R s m args below meth c Q H0 cells slots cy D ρ A 4 76 [(0, .ref (ρ 27)), (1, .int (x1')), (2, .int (x2'))] [] (u')) (hE1 : ∀ x2' x3' u', z = .inr (.inr (x2', x3', u')) → gAt p l e R s m args below meth c Q H0 cells slots cy D ρ A 4 50 [(0, .ref (ρ 27)), (2, .int (x2')), (3, .int (x3'))] [] (u')) : gAt p l e R s m args below meth c Q H0 cells slots cy D ρ A 4 15 [(0, .ref (ρ 27)), (1, .int x1), (2, .int x2), (3, .int x3)] [] u := by
  intro ls H locs hl hP hS
  have hx := C.1
  have hb := C.2.1
  unfold M_Ranking_reckonChance_b15 at hM
  refine lv_iload_n hx hb d_Ranking_reckonChance_15 rfl (lv_at hl 3 rfl) ?_
  refine lv_iload_n hx hb d_Ranking_reckonChance_16 rfl (lv_at hl 1 rfl) ?_
  refine lv_icmp_ge (tgt := 76) hx hb d_Ranking_reckonChance_17 (by decide) (fun hc17 => ?_) (fun hc17 => ?_)
  · replace hM := gi_t hc17 hM
    exact hE0 _ _ _ (Option.some.inj hM).symm ls H locs (lv_sub hl [0, 1, 2] rfl) hP hS
  · replace hM := gi_f hc17 hM
    refine lv_aload_n hx hb d_Ranking_reckonChance_20 rfl (lv_at hl 0 rfl) ?_
    refine g_getR (b := 29) C hP gl_Ranking_15 rfl rfl rfl d_Ranking_reckonChance_21 ?_
    refine lv_iload_n hx hb d_Ranking_reckonChance_24 rfl (lv_at hl 3 rfl) ?_
    obtain ⟨hi25, hM⟩ := gc_some hM
    refine g_iald C hP rfl hi25 d_Ranking_reckonChance_25 ?_
    refine lv_aload_n hx hb d_Ranking_reckonChance_26 rfl (lv_at hl 0 rfl) ?_
    refine g_getR (b := 29) C hP gl_Ranking_15 rfl rfl rfl d_Ranking_reckonChance_27 ?_
    refine lv_iload_n hx hb d_Ranking_reckonChance_30 rfl (lv_at hl 1 rfl) ?_
    obtain ⟨hi31, hM⟩ := gc_some hM
    refine g_iald C hP rfl hi31 d_Ranking_reckonChance_31 ?_
    refine lv_icmp_ne (tgt := 70) hx hb d_Ranking_reckonChance_32 (by decide) (fun hc32 => ?_) (fun hc32 => ?_)
    · replace hM := gi_f hc32 hM
      exact t_Ranking_reckonChance_b70 C hM hN hE0 hE1 ls H locs (lv_sub hl [0, 1, 2, 3] rfl) hP hS
    · replace hM := gi_t hc32 hM
      refine lv_aload_n hx hb d_Ranking_reckonChance_35 rfl (lv_at hl 0 rfl) ?_
      refine g_getR (b := 30) C hP gl_Ranking_18 rfl rfl rfl d_Ranking_reckonChance_36 ?_
      refine lv_iload_n hx hb d_Ranking_reckonChance_39 rfl (lv_at hl 3 rfl) ?_
      obtain ⟨hi40, hM⟩ := gc_some hM
      refine g_iald C hP rfl hi40 d_Ranking_reckonChance_40 ?_
      refine lv_aload_n hx hb d_Ranking_reckonChance_41 rfl (lv_at hl 0 rfl) ?_
      refine g_getR (b := 30) C hP gl_Ranking_18 rfl rfl rfl d_Ranking_reckonChance_42 ?_
      refine lv_iload_n hx hb d_Ranking_reckonChance_45 rfl (lv_at hl 1 rfl) ?_
      obtain ⟨hi46, hM⟩ := gc_some hM
      refine g_iald C hP rfl hi46 d_Ranking_reckonChance_46 ?_
      refine lv_icmp_ne (tgt := 70) hx hb d_Ranking_reckonChance_47 (by decide) (fun hc47 => ?_) (fun hc47 => ?_)
      · replace hM := gi_f hc47 hM
        exact t_Ranking_reckonChance_b70 C hM hN hE0 hE1 ls H locs (lv_sub hl [0, 1, 2, 3] rfl) hP hS
      · replace hM := gi_t hc47 hM
        exact hE1 _ _ _ (Option.some.inj hM).symm ls H locs (lv_sub hl [0, 2, 3] rfl) hP hS
noncomputable def M_Ranking_reckonChance_L15 : (Int32 × Int32 × Int32 × gSt) → Option ((Int32 × Int32 × Int32 × gSt) ⊕ ((Int32 × Int32 × gSt) ⊕ (Int32 × Int32 × gSt))) := fun x => M_Ranking_reckonChance_b15 x.1 x.2.1 x.2.2.1 x.2.2.2
theorem t_Ranking_reckonChance_L15 (C : gX "TermDesk$Ranking" prog_8_method_6_code 4 none 3 106 R cells slots cy D ρ A p s m args meth c) {x1 : Int32} {x2 : Int32} {x3 : Int32} {u : gSt} {yy : (Int32 × Int32 × gSt) ⊕ (Int32 × Int32 × gSt)} (hL : gLp M_Ranking_reckonChance_L15 (x1, x2, x3, u) = some yy) (hE0 : (∀ y', yy = (.inl y') → gAt p l e R s m args below meth c Q H0 cells slots cy D ρ A 4 76 [(0, .ref (ρ 27)), (1, .int (y'.1)), (2, .int (y'.2.1))] [] (y'.2.2))) (hE1 : (∀ y', yy = (.inr y') → gAt p l e R s m args below meth c Q H0 cells slots cy D ρ A 4 50 [(0, .ref (ρ 27)), (2, .int (y'.1)), (3, .int (y'.2.1))] [] (y'.2.2))) : gAt p l e R s m args below meth c Q H0 cells slots cy D ρ A 4 15 [(0, .ref (ρ 27)), (1, .int x1), (2, .int x2), (3, .int x3)] [] u :=
  g_loop (f := M_Ranking_reckonChance_L15) (P := fun x => gAt p l e R s m args below meth c Q H0 cells slots cy D ρ A 4 15 [(0, .ref (ρ 27)), (1, .int x.1), (2, .int x.2.1), (3, .int x.2.2.1)] [] x.2.2.2) (E := fun yy => (∀ y', yy = (.inl y') → gAt p l e R s m args below meth c Q H0 cells slots cy D ρ A 4 76 [(0, .ref (ρ 27)), (1, .int (y'.1)), (2, .int (y'.2.1))] [] (y'.2.2)) ∧ (∀ y', yy = (.inr y') → gAt p l e R s m args below meth c Q H0 cells slots cy D ρ A 4 50 [(0, .ref (ρ 27)), (2, .int (y'.1)), (3, .int (y'.2.1))] [] (y'.2.2))) (fun x z hf hN hE => t_Ranking_reckonChance_b15 C hf (fun x1' x2' x3' u' h => hN (x1', x2', x3', u') h) (fun x1' x2' u' h => (hE _ h).1 (x1', x2', u') rfl) (fun x2' x3' u' h => (hE _ h).2 (x2', x3', u') rfl)) hL ⟨hE0, hE1⟩
noncomputable def M_Ranking_reckonChance (x1 : Int32) (u : gSt) : Option (gSt) :=
  (M_Ranking_slot (0 : Int32) x1 u).bind fun q2 =>
  gc (gIn q2.1 (gLen 32)) <| (some (gsA q2.2 32 (gIx q2.1) (1 : Int32))).bind fun u12 =>
  (gLp M_Ranking_reckonChance_L15 (x1, q2.1, (0 : Int32), u12)).bind fun y15 =>
  (Sum.elim (fun y15_0 => gc (gIn y15_0.2.1 (gLen 31)) <| (gAR 31 (gIx y15_0.2.1)).bind fun r82 => gc (gIn y15_0.1 (gLen 30)) <| gc (gIn y15_0.1 (gLen 29)) <| (M_Ranking_sumWays r82 (y15_0.2.2.2.2.1 30 (gIx y15_0.1)) (y15_0.2.2.2.2.1 29 (gIx y15_0.1)) y15_0.2.2).bind fun q95 =>
  some q95) (fun y15_1 => (M_Ranking_slot (0 : Int32) y15_1.2.1 y15_1.2.2).bind fun q56 =>
  gc (gIn q56.1 (gLen 31)) <| (gAR 31 (gIx q56.1)).bind fun r59 => gc (gIn y15_1.1 (gLen 31)) <| (gAR 31 (gIx y15_1.1)).bind fun r65 => (M_Wide_copy r59 r65 q56.2).bind fun q66 =>
  some q66)) y15
set_option maxHeartbeats 4000000 in
set_option maxRecDepth 100000 in
theorem t_Ranking_reckonChance (C : gX "TermDesk$Ranking" prog_8_method_6_code 4 none 3 106 R cells slots cy D ρ A p s m args meth c) {x1 : Int32} {u : gSt} {z : gSt} (hM : M_Ranking_reckonChance x1 u = some z) (hR : gRtV p l e R s m args below meth c Q H0 cells slots cy D ρ A prog_8_method_6_code z) : gAt p l e R s m args below meth c Q H0 cells slots cy D ρ A 4 0 [(0, .ref (ρ 27)), (1, .int x1)] [] u := by
  intro ls H locs hl hP hS
  have hx := C.1
  have hb := C.2.1
  unfold M_Ranking_reckonChance at hM
  refine lv_iconst (v := (0 : Int32)) hx hb d_Ranking_reckonChance_0 (by decide) ?_
  refine lv_iload_n hx hb d_Ranking_reckonChance_1 rfl (lv_at hl 1 rfl) ?_
  obtain ⟨q2, hq2, hM⟩ := gb_some hM
  refine g_backI (g_runS (As := [.int (0 : Int32), .int x1]) C hP (c_Ranking_slot C.2.2.2.2.2.2.2.2.1 hq2) gi_Ranking_slot gm_Ranking_78 rfl (by decide) (by decide) hl.1 rfl (Nat.le_of_ble_eq_true rfl) d_Ranking_reckonChance_2) hS (fun H locs hP hS => ?_)
  refine lv_istore_n (lv' := [(2, .int q2.1), (0, .ref (ρ 27)), (1, .int x1)]) hx hb d_Ranking_reckonChance_5 rfl hl (by decide) rfl (fun ls hl => ?_)
  refine lv_aload_n hx hb d_Ranking_reckonChance_6 rfl (lv_at hl 1 rfl) ?_
  refine g_getR (b := 32) C hP gl_Ranking_28 rfl rfl rfl d_Ranking_reckonChance_7 ?_
  refine lv_iload_n hx hb d_Ranking_reckonChance_10 rfl (lv_at hl 0 rfl) ?_
  refine lv_iconst (v := (1 : Int32)) hx hb d_Ranking_reckonChance_11 (by decide) ?_
  obtain ⟨hi12, hM⟩ := gc_some hM
  obtain ⟨u12, e12, hM⟩ := gb_some hM
  refine g_iast C hP hS rfl hi12 d_Ranking_reckonChance_12 (fun H locs hP hS => ?_)
  rw [Option.some.inj e12] at hP
  refine lv_iconst (v := (0 : Int32)) hx hb d_Ranking_reckonChance_13 (by decide) ?_
  refine lv_istore_n (lv' := [(3, .int (0 : Int32)), (2, .int q2.1), (0, .ref (ρ 27)), (1, .int x1)]) hx hb d_Ranking_reckonChance_14 rfl hl (by decide) rfl (fun ls hl => ?_)
  obtain ⟨y15, hL15, hM⟩ := gb_some hM
  refine t_Ranking_reckonChance_L15 C hL15 (fun y15_0 hy => ?_) (fun y15_1 hy => ?_) ls H locs (lv_sub hl [2, 3, 1, 0] rfl) hP hS
  · subst hy
    replace hM := gs_l hM
    intro ls H locs hl hP hS
    refine lv_aload_n hx hb d_Ranking_reckonChance_76 rfl (lv_at hl 0 rfl) ?_
    refine lv_aload_n hx hb d_Ranking_reckonChance_77 rfl (lv_at hl 0 rfl) ?_
    refine g_getR (b := 31) C hP gl_Ranking_25 rfl rfl rfl d_Ranking_reckonChance_78 ?_
    refine lv_iload_n hx hb d_Ranking_reckonChance_81 rfl (lv_at hl 2 rfl) ?_
    obtain ⟨hi82, hM⟩ := gc_some hM
    obtain ⟨r82, hr82, hM⟩ := gb_some hM
    refine g_aald C hP rfl hi82 hr82 d_Ranking_reckonChance_82 ?_
    refine lv_aload_n hx hb d_Ranking_reckonChance_83 rfl (lv_at hl 0 rfl) ?_
    refine g_getR (b := 30) C hP gl_Ranking_18 rfl rfl rfl d_Ranking_reckonChance_84 ?_
    refine lv_iload_n hx hb d_Ranking_reckonChance_87 rfl (lv_at hl 1 rfl) ?_
    obtain ⟨hi88, hM⟩ := gc_some hM
    refine g_iald C hP rfl hi88 d_Ranking_reckonChance_88 ?_
    refine lv_aload_n hx hb d_Ranking_reckonChance_89 rfl (lv_at hl 0 rfl) ?_
    refine g_getR (b := 29) C hP gl_Ranking_15 rfl rfl rfl d_Ranking_reckonChance_90 ?_
    refine lv_iload_n hx hb d_Ranking_reckonChance_93 rfl (lv_at hl 1 rfl) ?_
    obtain ⟨hi94, hM⟩ := gc_some hM
    refine g_iald C hP rfl hi94 d_Ranking_reckonChance_94 ?_
    obtain ⟨q95, hq95, hM⟩ := gb_some hM
    refine g_backV (g_runV (As := [.ref (ρ r82), .int (y15_0.2.2.2.2.1 30 (gIx y15_0.1)), .int (y15_0.2.2.2.2.1 29 (gIx y15_0.1))]) C hP (c_Ranking_sumWays C.2.2.2.2.2.2.2.2.1 hq95) gi_Ranking_sumWays gm_Ranking_117 rfl rfl (by decide) (by decide) hl.1 rfl (Nat.le_of_ble_eq_true rfl) d_Ranking_reckonChance_95) hS (fun H locs hP hS => ?_)
    obtain rfl := Option.some.inj hM
    exact hR _ ls H locs d_Ranking_reckonChance_98 hP hS
  · subst hy
    replace hM := gs_r hM
    intro ls H locs hl hP hS
    refine lv_aload_n hx hb d_Ranking_reckonChance_50 rfl (lv_at hl 0 rfl) ?_
    refine g_getR (b := 31) C hP gl_Ranking_25 rfl rfl rfl d_Ranking_reckonChance_51 ?_
    refine lv_iconst (v := (0 : Int32)) hx hb d_Ranking_reckonChance_54 (by decide) ?_
    refine lv_iload_n hx hb d_Ranking_reckonChance_55 rfl (lv_at hl 2 rfl) ?_
    obtain ⟨q56, hq56, hM⟩ := gb_some hM
    refine g_backI (g_runS (As := [.int (0 : Int32), .int y15_1.2.1]) C hP (c_Ranking_slot C.2.2.2.2.2.2.2.2.1 hq56) gi_Ranking_slot gm_Ranking_78 rfl (by decide) (by decide) hl.1 rfl (Nat.le_of_ble_eq_true rfl) d_Ranking_reckonChance_56) hS (fun H locs hP hS => ?_)
    obtain ⟨hi59, hM⟩ := gc_some hM
    obtain ⟨r59, hr59, hM⟩ := gb_some hM
    refine g_aald C hP rfl hi59 hr59 d_Ranking_reckonChance_59 ?_
    refine lv_aload_n hx hb d_Ranking_reckonChance_60 rfl (lv_at hl 0 rfl) ?_
    refine g_getR (b := 31) C hP gl_Ranking_25 rfl rfl rfl d_Ranking_reckonChance_61 ?_
    refine lv_iload_n hx hb d_Ranking_reckonChance_64 rfl (lv_at hl 1 rfl) ?_
    obtain ⟨hi65, hM⟩ := gc_some hM
    obtain ⟨r65, hr65, hM⟩ := gb_some hM
    refine g_aald C hP rfl hi65 hr65 d_Ranking_reckonChance_65 ?_
    obtain ⟨q66, hq66, hM⟩ := gb_some hM
    refine g_backV (g_runS (As := [.ref (ρ r59), .ref (ρ r65)]) C hP (c_Wide_copy C.2.2.2.2.2.2.2.2.1 hq66) gi_Wide_copy gm_Ranking_113 rfl (by decide) (by decide) hl.1 rfl (Nat.le_of_ble_eq_true rfl) d_Ranking_reckonChance_66) hS (fun H locs hP hS => ?_)
    obtain rfl := Option.some.inj hM
    exact hR _ ls H locs d_Ranking_reckonChance_69 hP hS
theorem c_Ranking_reckonChance {l : Launch} {cy : Nat → ClassId} {D : va_G} {ρ : Nat → Nat} {A : Nat → Prop} (hD : gD ρ A) {x1 : Int32} {u : gSt} {z : gSt} (hM : M_Ranking_reckonChance x1 u = some z) : gCtV l y_Ranking_reckonChance prog_8_method_6_code 4 none 3 106 cy D ρ A [.ref (ρ 27), .int x1] u z :=
  g_met (by decide) hD (Nat.le_of_ble_eq_true rfl) (fun p e s m below meth c ls X hl hP => t_Ranking_reckonChance X hM (fun pc ls H locs hd hP hS => g_vret X hP hS hd) ls _ [] hl hP va_S.rf)
end
section
variable {p : Program} {l : Launch} {e : Env} {R : Room} {s : State} {m : MethodId} {args : Array Value} {below : List Frame} {meth : Method} {c : Code} {Q : State → Prop} {H0 : Heap} {cells slots : Nat} {cy : Nat → ClassId} {D : va_G} {ρ : Nat → Nat} {A : Nat → Prop}
def y_Ranking_setCapped : MethodName := ⟨"TermDesk$Ranking", "setCapped", "(IIII)V"⟩
theorem gi_Ranking_setCapped : gMi y_Ranking_setCapped prog_8_method_8_code 5 none 4 6 := ⟨(gWs_at 930 (by decide +kernel) (by decide +kernel)), (gWs_at 929 (by decide +kernel) (by decide +kernel)), (gWs_at 51 (by decide +kernel) (by decide +kernel)), (gWs_at 123 (by decide +kernel) (by decide +kernel)), ⟨by decide +kernel, by decide +kernel, by decide +kernel⟩, _, _, rfl⟩
theorem gm_Ranking_82 : gMk "TermDesk$Ranking" 82 y_Ranking_setCapped := Or.inl (gWs_at 927 (by decide +kernel) (by decide +kernel))
theorem d_Ranking_setCapped_0 : decode prog_8_method_8_code 0 = .ok (.aload_n 0, 1) := by decide +kernel
theorem d_Ranking_setCapped_1 : decode prog_8_method_8_code 1 = .ok (.getfield 25, 3) := by decide +kernel
theorem d_Ranking_setCapped_4 : decode prog_8_method_8_code 4 = .ok (.iconst 0, 1) := by decide +kernel
theorem d_Ranking_setCapped_5 : decode prog_8_method_8_code 5 = .ok (.iload_n 2, 1) := by decide +kernel
theorem d_Ranking_setCapped_6 : decode prog_8_method_8_code 6 = .ok (.invokestatic 78, 3) := by decide +kernel
theorem d_Ranking_setCapped_9 : decode prog_8_method_8_code 9 = .ok (.aaload, 1) := by decide +kernel
theorem d_Ranking_setCapped_10 : decode prog_8_method_8_code 10 = .ok (.aload_n 0, 1) := by decide +kernel
theorem d_Ranking_setCapped_11 : decode prog_8_method_8_code 11 = .ok (.getfield 25, 3) := by decide +kernel
theorem d_Ranking_setCapped_14 : decode prog_8_method_8_code 14 = .ok (.iload_n 1, 1) := by decide +kernel
theorem d_Ranking_setCapped_15 : decode prog_8_method_8_code 15 = .ok (.aaload, 1) := by decide +kernel
theorem d_Ranking_setCapped_16 : decode prog_8_method_8_code 16 = .ok (.invokestatic 113, 3) := by decide +kernel
theorem d_Ranking_setCapped_19 : decode prog_8_method_8_code 19 = .ok (.aload_n 0, 1) := by decide +kernel
theorem d_Ranking_setCapped_20 : decode prog_8_method_8_code 20 = .ok (.getfield 25, 3) := by decide +kernel
theorem d_Ranking_setCapped_23 : decode prog_8_method_8_code 23 = .ok (.iload_n 1, 1) := by decide +kernel
theorem d_Ranking_setCapped_24 : decode prog_8_method_8_code 24 = .ok (.aaload, 1) := by decide +kernel
theorem d_Ranking_setCapped_25 : decode prog_8_method_8_code 25 = .ok (.iload_n 3, 1) := by decide +kernel
theorem d_Ranking_setCapped_26 : decode prog_8_method_8_code 26 = .ok (.invokestatic 125, 3) := by decide +kernel
theorem d_Ranking_setCapped_29 : decode prog_8_method_8_code 29 = .ok (.aload_n 0, 1) := by decide +kernel
theorem d_Ranking_setCapped_30 : decode prog_8_method_8_code 30 = .ok (.getfield 28, 3) := by decide +kernel
theorem d_Ranking_setCapped_33 : decode prog_8_method_8_code 33 = .ok (.iload_n 1, 1) := by decide +kernel
theorem d_Ranking_setCapped_34 : decode prog_8_method_8_code 34 = .ok (.iload 4, 2) := by decide +kernel
theorem d_Ranking_setCapped_36 : decode prog_8_method_8_code 36 = .ok (.iastore, 1) := by decide +kernel
theorem d_Ranking_setCapped_37 : decode prog_8_method_8_code 37 = .ok (.aload_n 0, 1) := by decide +kernel
theorem d_Ranking_setCapped_38 : decode prog_8_method_8_code 38 = .ok (.getfield 31, 3) := by decide +kernel
theorem d_Ranking_setCapped_41 : decode prog_8_method_8_code 41 = .ok (.aload_n 0, 1) := by decide +kernel
theorem d_Ranking_setCapped_42 : decode prog_8_method_8_code 42 = .ok (.getfield 43, 3) := by decide +kernel
theorem d_Ranking_setCapped_45 : decode prog_8_method_8_code 45 = .ok (.invokestatic 113, 3) := by decide +kernel
theorem d_Ranking_setCapped_48 : decode prog_8_method_8_code 48 = .ok (.aload_n 0, 1) := by decide +kernel
theorem d_Ranking_setCapped_49 : decode prog_8_method_8_code 49 = .ok (.getfield 43, 3) := by decide +kernel
theorem d_Ranking_setCapped_52 : decode prog_8_method_8_code 52 = .ok (.iload 4, 2) := by decide +kernel
theorem d_Ranking_setCapped_54 : decode prog_8_method_8_code 54 = .ok (.invokestatic 125, 3) := by decide +kernel
theorem d_Ranking_setCapped_57 : decode prog_8_method_8_code 57 = .ok (.aload_n 0, 1) := by decide +kernel
theorem d_Ranking_setCapped_58 : decode prog_8_method_8_code 58 = .ok (.getfield 25, 3) := by decide +kernel
theorem d_Ranking_setCapped_61 : decode prog_8_method_8_code 61 = .ok (.iload_n 1, 1) := by decide +kernel
theorem d_Ranking_setCapped_62 : decode prog_8_method_8_code 62 = .ok (.aaload, 1) := by decide +kernel
theorem d_Ranking_setCapped_63 : decode prog_8_method_8_code 63 = .ok (.aload_n 0, 1) := by decide +kernel
theorem d_Ranking_setCapped_64 : decode prog_8_method_8_code 64 = .ok (.getfield 43, 3) := by decide +kernel
theorem d_Ranking_setCapped_67 : decode prog_8_method_8_code 67 = .ok (.invokestatic 134, 3) := by decide +kernel
theorem d_Ranking_setCapped_70 : decode prog_8_method_8_code 70 = .ok (.ifCond .lt 23, 3) := by decide +kernel
theorem d_Ranking_setCapped_73 : decode prog_8_method_8_code 73 = .ok (.aload_n 0, 1) := by decide +kernel
theorem d_Ranking_setCapped_74 : decode prog_8_method_8_code 74 = .ok (.getfield 31, 3) := by decide +kernel
theorem d_Ranking_setCapped_77 : decode prog_8_method_8_code 77 = .ok (.aload_n 0, 1) := by decide +kernel
theorem d_Ranking_setCapped_78 : decode prog_8_method_8_code 78 = .ok (.getfield 25, 3) := by decide +kernel
theorem d_Ranking_setCapped_81 : decode prog_8_method_8_code 81 = .ok (.iload_n 1, 1) := by decide +kernel
theorem d_Ranking_setCapped_82 : decode prog_8_method_8_code 82 = .ok (.aaload, 1) := by decide +kernel
theorem d_Ranking_setCapped_83 : decode prog_8_method_8_code 83 = .ok (.invokestatic 113, 3) := by decide +kernel
theorem d_Ranking_setCapped_86 : decode prog_8_method_8_code 86 = .ok (.aload_n 0, 1) := by decide +kernel
theorem d_Ranking_setCapped_87 : decode prog_8_method_8_code 87 = .ok (.getfield 28, 3) := by decide +kernel
theorem d_Ranking_setCapped_90 : decode prog_8_method_8_code 90 = .ok (.iload_n 1, 1) := by decide +kernel
theorem d_Ranking_setCapped_91 : decode prog_8_method_8_code 91 = .ok (.iconst 1, 1) := by decide +kernel
theorem d_Ranking_setCapped_92 : decode prog_8_method_8_code 92 = .ok (.iastore, 1) := by decide +kernel
theorem d_Ranking_setCapped_93 : decode prog_8_method_8_code 93 = .ok (.return_, 1) := by decide +kernel
noncomputable def M_Ranking_setCapped_b93 (u : gSt) : Option (gSt) :=
  some u
set_option maxHeartbeats 4000000 in
set_option maxRecDepth 100000 in
theorem t_Ranking_setCapped_b93 (C : gX "TermDesk$Ranking" prog_8_method_8_code 5 none 2 81 R cells slots cy D ρ A p s m args meth c) {u : gSt} {z : gSt} (hM : M_Ranking_setCapped_b93 u = some z) (hR : gRtV p l e R s m args below meth c Q H0 cells slots cy D ρ A prog_8_method_8_code z) : gAt p l e R s m args below meth c Q H0 cells slots cy D ρ A 5 93 [] [] u := by
  intro ls H locs hl hP hS
  have hx := C.1
  have hb := C.2.1
  unfold M_Ranking_setCapped_b93 at hM
  obtain rfl := Option.some.inj hM
  exact hR _ ls H locs d_Ranking_setCapped_93 hP hS
noncomputable def M_Ranking_setCapped (x1 : Int32) (x2 : Int32) (x3 : Int32) (x4 : Int32) (u : gSt) : Option (gSt) :=
  (M_Ranking_slot (0 : Int32) x2 u).bind fun q6 =>
  gc (gIn q6.1 (gLen 31)) <| (gAR 31 (gIx q6.1)).bind fun r9 => gc (gIn x1 (gLen 31)) <| (gAR 31 (gIx x1)).bind fun r15 => (M_Wide_copy r9 r15 q6.2).bind fun q16 =>
  gc (gIn x1 (gLen 31)) <| (gAR 31 (gIx x1)).bind fun r24 => (M_Wide_multiply r24 x3 q16).bind fun q26 =>
  gc (gIn x1 (gLen 32)) <| (some (gsA q26 32 (gIx x1) x4)).bind fun u36 =>
  (M_Wide_copy 33 37 u36).bind fun q45 =>
  (M_Wide_multiply 37 x4 q45).bind fun q54 =>
  gc (gIn x1 (gLen 31)) <| (gAR 31 (gIx x1)).bind fun r62 => (M_Wide_compare r62 37 q54).bind fun q67 =>
  if q67.1 < (0 : Int32) then
    (M_Ranking_setCapped_b93 q67.2)
  else
    (gc (gIn x1 (gLen 31)) <| (gAR 31 (gIx x1)).bind fun r82 => (M_Wide_copy 33 r82 q67.2).bind fun q83 =>
    gc (gIn x1 (gLen 32)) <| (some (gsA q83 32 (gIx x1) (1 : Int32))).bind fun u92 =>
    M_Ranking_setCapped_b93 u92)
set_option maxHeartbeats 4000000 in
set_option maxRecDepth 100000 in
theorem t_Ranking_setCapped (C : gX "TermDesk$Ranking" prog_8_method_8_code 5 none 2 81 R cells slots cy D ρ A p s m args meth c) {x1 : Int32} {x2 : Int32} {x3 : Int32} {x4 : Int32} {u : gSt} {z : gSt} (hM : M_Ranking_setCapped x1 x2 x3 x4 u = some z) (hR : gRtV p l e R s m args below meth c Q H0 cells slots cy D ρ A prog_8_method_8_code z) : gAt p l e R s m args below meth c Q H0 cells slots cy D ρ A 5 0 [(0, .ref (ρ 27)), (1, .int x1), (2, .int x2), (3, .int x3), (4, .int x4)] [] u := by
  intro ls H locs hl hP hS
  have hx := C.1
  have hb := C.2.1
  unfold M_Ranking_setCapped at hM
  refine lv_aload_n hx hb d_Ranking_setCapped_0 rfl (lv_at hl 0 rfl) ?_
  refine g_getR (b := 31) C hP gl_Ranking_25 rfl rfl rfl d_Ranking_setCapped_1 ?_
  refine lv_iconst (v := (0 : Int32)) hx hb d_Ranking_setCapped_4 (by decide) ?_
  refine lv_iload_n hx hb d_Ranking_setCapped_5 rfl (lv_at hl 2 rfl) ?_
  obtain ⟨q6, hq6, hM⟩ := gb_some hM
  refine g_backI (g_runS (As := [.int (0 : Int32), .int x2]) C hP (c_Ranking_slot C.2.2.2.2.2.2.2.2.1 hq6) gi_Ranking_slot gm_Ranking_78 rfl (by decide) (by decide) hl.1 rfl (Nat.le_of_ble_eq_true rfl) d_Ranking_setCapped_6) hS (fun H locs hP hS => ?_)
  obtain ⟨hi9, hM⟩ := gc_some hM
  obtain ⟨r9, hr9, hM⟩ := gb_some hM
  refine g_aald C hP rfl hi9 hr9 d_Ranking_setCapped_9 ?_
  refine lv_aload_n hx hb d_Ranking_setCapped_10 rfl (lv_at hl 0 rfl) ?_
  refine g_getR (b := 31) C hP gl_Ranking_25 rfl rfl rfl d_Ranking_setCapped_11 ?_
  refine lv_iload_n hx hb d_Ranking_setCapped_14 rfl (lv_at hl 1 rfl) ?_
  obtain ⟨hi15, hM⟩ := gc_some hM
  obtain ⟨r15, hr15, hM⟩ := gb_some hM
  refine g_aald C hP rfl hi15 hr15 d_Ranking_setCapped_15 ?_
  obtain ⟨q16, hq16, hM⟩ := gb_some hM
  refine g_backV (g_runS (As := [.ref (ρ r9), .ref (ρ r15)]) C hP (c_Wide_copy C.2.2.2.2.2.2.2.2.1 hq16) gi_Wide_copy gm_Ranking_113 rfl (by decide) (by decide) hl.1 rfl (Nat.le_of_ble_eq_true rfl) d_Ranking_setCapped_16) hS (fun H locs hP hS => ?_)
  refine lv_aload_n hx hb d_Ranking_setCapped_19 rfl (lv_at hl 0 rfl) ?_
  refine g_getR (b := 31) C hP gl_Ranking_25 rfl rfl rfl d_Ranking_setCapped_20 ?_
  refine lv_iload_n hx hb d_Ranking_setCapped_23 rfl (lv_at hl 1 rfl) ?_
  obtain ⟨hi24, hM⟩ := gc_some hM
  obtain ⟨r24, hr24, hM⟩ := gb_some hM
  refine g_aald C hP rfl hi24 hr24 d_Ranking_setCapped_24 ?_
  refine lv_iload_n hx hb d_Ranking_setCapped_25 rfl (lv_at hl 3 rfl) ?_
  obtain ⟨q26, hq26, hM⟩ := gb_some hM
  refine g_backV (g_runS (As := [.ref (ρ r24), .int x3]) C hP (c_Wide_multiply C.2.2.2.2.2.2.2.2.1 hq26) gi_Wide_multiply gm_Ranking_125 rfl (by decide) (by decide) hl.1 rfl (Nat.le_of_ble_eq_true rfl) d_Ranking_setCapped_26) hS (fun H locs hP hS => ?_)
  refine lv_aload_n hx hb d_Ranking_setCapped_29 rfl (lv_at hl 0 rfl) ?_
  refine g_getR (b := 32) C hP gl_Ranking_28 rfl rfl rfl d_Ranking_setCapped_30 ?_
  refine lv_iload_n hx hb d_Ranking_setCapped_33 rfl (lv_at hl 1 rfl) ?_
  refine lv_iload hx hb d_Ranking_setCapped_34 (lv_at hl 4 rfl) ?_
  obtain ⟨hi36, hM⟩ := gc_some hM
  obtain ⟨u36, e36, hM⟩ := gb_some hM
  refine g_iast C hP hS rfl hi36 d_Ranking_setCapped_36 (fun H locs hP hS => ?_)
  rw [Option.some.inj e36] at hP
  refine lv_aload_n hx hb d_Ranking_setCapped_37 rfl (lv_at hl 0 rfl) ?_
  refine g_getR (b := 33) C hP gl_Ranking_31 rfl rfl rfl d_Ranking_setCapped_38 ?_
  refine lv_aload_n hx hb d_Ranking_setCapped_41 rfl (lv_at hl 0 rfl) ?_
  refine g_getR (b := 37) C hP gl_Ranking_43 rfl rfl rfl d_Ranking_setCapped_42 ?_
  obtain ⟨q45, hq45, hM⟩ := gb_some hM
  refine g_backV (g_runS (As := [.ref (ρ 33), .ref (ρ 37)]) C hP (c_Wide_copy C.2.2.2.2.2.2.2.2.1 hq45) gi_Wide_copy gm_Ranking_113 rfl (by decide) (by decide) hl.1 rfl (Nat.le_of_ble_eq_true rfl) d_Ranking_setCapped_45) hS (fun H locs hP hS => ?_)
  refine lv_aload_n hx hb d_Ranking_setCapped_48 rfl (lv_at hl 0 rfl) ?_
  refine g_getR (b := 37) C hP gl_Ranking_43 rfl rfl rfl d_Ranking_setCapped_49 ?_
  refine lv_iload hx hb d_Ranking_setCapped_52 (lv_at hl 4 rfl) ?_
  obtain ⟨q54, hq54, hM⟩ := gb_some hM
  refine g_backV (g_runS (As := [.ref (ρ 37), .int x4]) C hP (c_Wide_multiply C.2.2.2.2.2.2.2.2.1 hq54) gi_Wide_multiply gm_Ranking_125 rfl (by decide) (by decide) hl.1 rfl (Nat.le_of_ble_eq_true rfl) d_Ranking_setCapped_54) hS (fun H locs hP hS => ?_)
  refine lv_aload_n hx hb d_Ranking_setCapped_57 rfl (lv_at hl 0 rfl) ?_
  refine g_getR (b := 31) C hP gl_Ranking_25 rfl rfl rfl d_Ranking_setCapped_58 ?_
  refine lv_iload_n hx hb d_Ranking_setCapped_61 rfl (lv_at hl 1 rfl) ?_
  obtain ⟨hi62, hM⟩ := gc_some hM
  obtain ⟨r62, hr62, hM⟩ := gb_some hM
  refine g_aald C hP rfl hi62 hr62 d_Ranking_setCapped_62 ?_
  refine lv_aload_n hx hb d_Ranking_setCapped_63 rfl (lv_at hl 0 rfl) ?_
  refine g_getR (b := 37) C hP gl_Ranking_43 rfl rfl rfl d_Ranking_setCapped_64 ?_
  obtain ⟨q67, hq67, hM⟩ := gb_some hM
  refine g_backI (g_runS (As := [.ref (ρ r62), .ref (ρ 37)]) C hP (c_Wide_compare C.2.2.2.2.2.2.2.2.1 hq67) gi_Wide_compare gm_Ranking_134 rfl (by decide) (by decide) hl.1 rfl (Nat.le_of_ble_eq_true rfl) d_Ranking_setCapped_67) hS (fun H locs hP hS => ?_)
  refine lv_if_lt (tgt := 93) hx hb d_Ranking_setCapped_70 (by decide) (fun hc70 => ?_) (fun hc70 => ?_)
  · replace hM := gi_t hc70 hM
    exact t_Ranking_setCapped_b93 C hM hR ls H locs (lv_sub hl [] rfl) hP hS
  · replace hM := gi_f hc70 hM
    refine lv_aload_n hx hb d_Ranking_setCapped_73 rfl (lv_at hl 0 rfl) ?_
    refine g_getR (b := 33) C hP gl_Ranking_31 rfl rfl rfl d_Ranking_setCapped_74 ?_
    refine lv_aload_n hx hb d_Ranking_setCapped_77 rfl (lv_at hl 0 rfl) ?_
    refine g_getR (b := 31) C hP gl_Ranking_25 rfl rfl rfl d_Ranking_setCapped_78 ?_
    refine lv_iload_n hx hb d_Ranking_setCapped_81 rfl (lv_at hl 1 rfl) ?_
    obtain ⟨hi82, hM⟩ := gc_some hM
    obtain ⟨r82, hr82, hM⟩ := gb_some hM
    refine g_aald C hP rfl hi82 hr82 d_Ranking_setCapped_82 ?_
    obtain ⟨q83, hq83, hM⟩ := gb_some hM
    refine g_backV (g_runS (As := [.ref (ρ 33), .ref (ρ r82)]) C hP (c_Wide_copy C.2.2.2.2.2.2.2.2.1 hq83) gi_Wide_copy gm_Ranking_113 rfl (by decide) (by decide) hl.1 rfl (Nat.le_of_ble_eq_true rfl) d_Ranking_setCapped_83) hS (fun H locs hP hS => ?_)
    refine lv_aload_n hx hb d_Ranking_setCapped_86 rfl (lv_at hl 0 rfl) ?_
    refine g_getR (b := 32) C hP gl_Ranking_28 rfl rfl rfl d_Ranking_setCapped_87 ?_
    refine lv_iload_n hx hb d_Ranking_setCapped_90 rfl (lv_at hl 1 rfl) ?_
    refine lv_iconst (v := (1 : Int32)) hx hb d_Ranking_setCapped_91 (by decide) ?_
    obtain ⟨hi92, hM⟩ := gc_some hM
    obtain ⟨u92, e92, hM⟩ := gb_some hM
    refine g_iast C hP hS rfl hi92 d_Ranking_setCapped_92 (fun H locs hP hS => ?_)
    rw [Option.some.inj e92] at hP
    exact t_Ranking_setCapped_b93 C hM hR ls H locs (lv_sub hl [] rfl) hP hS
theorem c_Ranking_setCapped {l : Launch} {cy : Nat → ClassId} {D : va_G} {ρ : Nat → Nat} {A : Nat → Prop} (hD : gD ρ A) {x1 : Int32} {x2 : Int32} {x3 : Int32} {x4 : Int32} {u : gSt} {z : gSt} (hM : M_Ranking_setCapped x1 x2 x3 x4 u = some z) : gCtV l y_Ranking_setCapped prog_8_method_8_code 5 none 2 81 cy D ρ A [.ref (ρ 27), .int x1, .int x2, .int x3, .int x4] u z :=
  g_met (by decide) hD (Nat.le_of_ble_eq_true rfl) (fun p e s m below meth c ls X hl hP => t_Ranking_setCapped X hM (fun pc ls H locs hd hP hS => g_vret X hP hS hd) ls _ [] hl hP va_S.rf)
end
section
variable {p : Program} {l : Launch} {e : Env} {R : Room} {s : State} {m : MethodId} {args : Array Value} {below : List Frame} {meth : Method} {c : Code} {Q : State → Prop} {H0 : Heap} {cells slots : Nat} {cy : Nat → ClassId} {D : va_G} {ρ : Nat → Nat} {A : Nat → Prop}
def y_Ranking_copySlot : MethodName := ⟨"TermDesk$Ranking", "copySlot", "(II)V"⟩
theorem gi_Ranking_copySlot : gMi y_Ranking_copySlot prog_8_method_11_code 3 none 2 6 := ⟨(gWs_at 938 (by decide +kernel) (by decide +kernel)), (gWs_at 937 (by decide +kernel) (by decide +kernel)), (gWs_at 53 (by decide +kernel) (by decide +kernel)), (gWs_at 123 (by decide +kernel) (by decide +kernel)), ⟨by decide +kernel, by decide +kernel, by decide +kernel⟩, _, _, rfl⟩
theorem gm_Ranking_141 : gMk "TermDesk$Ranking" 141 y_Ranking_copySlot := Or.inl (gWs_at 935 (by decide +kernel) (by decide +kernel))
theorem d_Ranking_copySlot_0 : decode prog_8_method_11_code 0 = .ok (.aload_n 0, 1) := by decide +kernel
theorem d_Ranking_copySlot_1 : decode prog_8_method_11_code 1 = .ok (.getfield 25, 3) := by decide +kernel
theorem d_Ranking_copySlot_4 : decode prog_8_method_11_code 4 = .ok (.iload_n 1, 1) := by decide +kernel
theorem d_Ranking_copySlot_5 : decode prog_8_method_11_code 5 = .ok (.aaload, 1) := by decide +kernel
theorem d_Ranking_copySlot_6 : decode prog_8_method_11_code 6 = .ok (.aload_n 0, 1) := by decide +kernel
theorem d_Ranking_copySlot_7 : decode prog_8_method_11_code 7 = .ok (.getfield 25, 3) := by decide +kernel
theorem d_Ranking_copySlot_10 : decode prog_8_method_11_code 10 = .ok (.iload_n 2, 1) := by decide +kernel
theorem d_Ranking_copySlot_11 : decode prog_8_method_11_code 11 = .ok (.aaload, 1) := by decide +kernel
theorem d_Ranking_copySlot_12 : decode prog_8_method_11_code 12 = .ok (.invokestatic 113, 3) := by decide +kernel
theorem d_Ranking_copySlot_15 : decode prog_8_method_11_code 15 = .ok (.aload_n 0, 1) := by decide +kernel
theorem d_Ranking_copySlot_16 : decode prog_8_method_11_code 16 = .ok (.getfield 28, 3) := by decide +kernel
theorem d_Ranking_copySlot_19 : decode prog_8_method_11_code 19 = .ok (.iload_n 2, 1) := by decide +kernel
theorem d_Ranking_copySlot_20 : decode prog_8_method_11_code 20 = .ok (.aload_n 0, 1) := by decide +kernel
theorem d_Ranking_copySlot_21 : decode prog_8_method_11_code 21 = .ok (.getfield 28, 3) := by decide +kernel
theorem d_Ranking_copySlot_24 : decode prog_8_method_11_code 24 = .ok (.iload_n 1, 1) := by decide +kernel
theorem d_Ranking_copySlot_25 : decode prog_8_method_11_code 25 = .ok (.iaload, 1) := by decide +kernel
theorem d_Ranking_copySlot_26 : decode prog_8_method_11_code 26 = .ok (.iastore, 1) := by decide +kernel
theorem d_Ranking_copySlot_27 : decode prog_8_method_11_code 27 = .ok (.return_, 1) := by decide +kernel
noncomputable def M_Ranking_copySlot (x1 : Int32) (x2 : Int32) (u : gSt) : Option (gSt) :=
  gc (gIn x1 (gLen 31)) <| (gAR 31 (gIx x1)).bind fun r5 => gc (gIn x2 (gLen 31)) <| (gAR 31 (gIx x2)).bind fun r11 => (M_Wide_copy r5 r11 u).bind fun q12 =>
  gc (gIn x1 (gLen 32)) <| gc (gIn x2 (gLen 32)) <| (some (gsA q12 32 (gIx x2) (q12.2.2.1 32 (gIx x1)))).bind fun u26 =>
  some u26
set_option maxHeartbeats 4000000 in
set_option maxRecDepth 100000 in
theorem t_Ranking_copySlot (C : gX "TermDesk$Ranking" prog_8_method_11_code 3 none 2 81 R cells slots cy D ρ A p s m args meth c) {x1 : Int32} {x2 : Int32} {u : gSt} {z : gSt} (hM : M_Ranking_copySlot x1 x2 u = some z) (hR : gRtV p l e R s m args below meth c Q H0 cells slots cy D ρ A prog_8_method_11_code z) : gAt p l e R s m args below meth c Q H0 cells slots cy D ρ A 3 0 [(0, .ref (ρ 27)), (1, .int x1), (2, .int x2)] [] u := by
  intro ls H locs hl hP hS
  have hx := C.1
  have hb := C.2.1
  unfold M_Ranking_copySlot at hM
  refine lv_aload_n hx hb d_Ranking_copySlot_0 rfl (lv_at hl 0 rfl) ?_
  refine g_getR (b := 31) C hP gl_Ranking_25 rfl rfl rfl d_Ranking_copySlot_1 ?_
  refine lv_iload_n hx hb d_Ranking_copySlot_4 rfl (lv_at hl 1 rfl) ?_
  obtain ⟨hi5, hM⟩ := gc_some hM
  obtain ⟨r5, hr5, hM⟩ := gb_some hM
  refine g_aald C hP rfl hi5 hr5 d_Ranking_copySlot_5 ?_
  refine lv_aload_n hx hb d_Ranking_copySlot_6 rfl (lv_at hl 0 rfl) ?_
  refine g_getR (b := 31) C hP gl_Ranking_25 rfl rfl rfl d_Ranking_copySlot_7 ?_
  refine lv_iload_n hx hb d_Ranking_copySlot_10 rfl (lv_at hl 2 rfl) ?_
  obtain ⟨hi11, hM⟩ := gc_some hM
  obtain ⟨r11, hr11, hM⟩ := gb_some hM
  refine g_aald C hP rfl hi11 hr11 d_Ranking_copySlot_11 ?_
  obtain ⟨q12, hq12, hM⟩ := gb_some hM
  refine g_backV (g_runS (As := [.ref (ρ r5), .ref (ρ r11)]) C hP (c_Wide_copy C.2.2.2.2.2.2.2.2.1 hq12) gi_Wide_copy gm_Ranking_113 rfl (by decide) (by decide) hl.1 rfl (Nat.le_of_ble_eq_true rfl) d_Ranking_copySlot_12) hS (fun H locs hP hS => ?_)
  refine lv_aload_n hx hb d_Ranking_copySlot_15 rfl (lv_at hl 0 rfl) ?_
  refine g_getR (b := 32) C hP gl_Ranking_28 rfl rfl rfl d_Ranking_copySlot_16 ?_
  refine lv_iload_n hx hb d_Ranking_copySlot_19 rfl (lv_at hl 2 rfl) ?_
  refine lv_aload_n hx hb d_Ranking_copySlot_20 rfl (lv_at hl 0 rfl) ?_
  refine g_getR (b := 32) C hP gl_Ranking_28 rfl rfl rfl d_Ranking_copySlot_21 ?_
  refine lv_iload_n hx hb d_Ranking_copySlot_24 rfl (lv_at hl 1 rfl) ?_
  obtain ⟨hi25, hM⟩ := gc_some hM
  refine g_iald C hP rfl hi25 d_Ranking_copySlot_25 ?_
  obtain ⟨hi26, hM⟩ := gc_some hM
  obtain ⟨u26, e26, hM⟩ := gb_some hM
  refine g_iast C hP hS rfl hi26 d_Ranking_copySlot_26 (fun H locs hP hS => ?_)
  rw [Option.some.inj e26] at hP
  obtain rfl := Option.some.inj hM
  exact hR _ ls H locs d_Ranking_copySlot_27 hP hS
theorem c_Ranking_copySlot {l : Launch} {cy : Nat → ClassId} {D : va_G} {ρ : Nat → Nat} {A : Nat → Prop} (hD : gD ρ A) {x1 : Int32} {x2 : Int32} {u : gSt} {z : gSt} (hM : M_Ranking_copySlot x1 x2 u = some z) : gCtV l y_Ranking_copySlot prog_8_method_11_code 3 none 2 81 cy D ρ A [.ref (ρ 27), .int x1, .int x2] u z :=
  g_met (by decide) hD (Nat.le_of_ble_eq_true rfl) (fun p e s m below meth c ls X hl hP => t_Ranking_copySlot X hM (fun pc ls H locs hd hP hS => g_vret X hP hS hd) ls _ [] hl hP va_S.rf)
end
section
variable {p : Program} {l : Launch} {e : Env} {R : Room} {s : State} {m : MethodId} {args : Array Value} {below : List Frame} {meth : Method} {c : Code} {Q : State → Prop} {H0 : Heap} {cells slots : Nat} {cy : Nat → ClassId} {D : va_G} {ρ : Nat → Nat} {A : Nat → Prop}
def y_Ranking_stepDown : MethodName := ⟨"TermDesk$Ranking", "stepDown", "()V"⟩
theorem gi_Ranking_stepDown : gMi y_Ranking_stepDown prog_8_method_9_code 4 none 0 6 := ⟨(gWs_at 934 (by decide +kernel) (by decide +kernel)), (gWs_at 933 (by decide +kernel) (by decide +kernel)), (gWs_at 52 (by decide +kernel) (by decide +kernel)), (gWs_at 123 (by decide +kernel) (by decide +kernel)), ⟨by decide +kernel, by decide +kernel, by decide +kernel⟩, _, _, rfl⟩
theorem gm_Ranking_86 : gMk "TermDesk$Ranking" 86 y_Ranking_stepDown := Or.inl (gWs_at 931 (by decide +kernel) (by decide +kernel))
theorem d_Ranking_stepDown_0 : decode prog_8_method_9_code 0 = .ok (.iconst 0, 1) := by decide +kernel
theorem d_Ranking_stepDown_1 : decode prog_8_method_9_code 1 = .ok (.istore_n 1, 1) := by decide +kernel
theorem d_Ranking_stepDown_2 : decode prog_8_method_9_code 2 = .ok (.iload_n 1, 1) := by decide +kernel
theorem d_Ranking_stepDown_3 : decode prog_8_method_9_code 3 = .ok (.aload_n 0, 1) := by decide +kernel
theorem d_Ranking_stepDown_4 : decode prog_8_method_9_code 4 = .ok (.getfield 53, 3) := by decide +kernel
theorem d_Ranking_stepDown_7 : decode prog_8_method_9_code 7 = .ok (.if_icmp .ge 70, 3) := by decide +kernel
theorem d_Ranking_stepDown_10 : decode prog_8_method_9_code 10 = .ok (.iconst 2, 1) := by decide +kernel
theorem d_Ranking_stepDown_11 : decode prog_8_method_9_code 11 = .ok (.aload_n 0, 1) := by decide +kernel
theorem d_Ranking_stepDown_12 : decode prog_8_method_9_code 12 = .ok (.getfield 34, 3) := by decide +kernel
theorem d_Ranking_stepDown_15 : decode prog_8_method_9_code 15 = .ok (.iload_n 1, 1) := by decide +kernel
theorem d_Ranking_stepDown_16 : decode prog_8_method_9_code 16 = .ok (.iaload, 1) := by decide +kernel
theorem d_Ranking_stepDown_17 : decode prog_8_method_9_code 17 = .ok (.invokestatic 78, 3) := by decide +kernel
theorem d_Ranking_stepDown_20 : decode prog_8_method_9_code 20 = .ok (.istore_n 2, 1) := by decide +kernel
theorem d_Ranking_stepDown_21 : decode prog_8_method_9_code 21 = .ok (.aload_n 0, 1) := by decide +kernel
theorem d_Ranking_stepDown_22 : decode prog_8_method_9_code 22 = .ok (.iload_n 2, 1) := by decide +kernel
theorem d_Ranking_stepDown_23 : decode prog_8_method_9_code 23 = .ok (.aload_n 0, 1) := by decide +kernel
theorem d_Ranking_stepDown_24 : decode prog_8_method_9_code 24 = .ok (.getfield 34, 3) := by decide +kernel
theorem d_Ranking_stepDown_27 : decode prog_8_method_9_code 27 = .ok (.iload_n 1, 1) := by decide +kernel
theorem d_Ranking_stepDown_28 : decode prog_8_method_9_code 28 = .ok (.iaload, 1) := by decide +kernel
theorem d_Ranking_stepDown_29 : decode prog_8_method_9_code 29 = .ok (.aload_n 0, 1) := by decide +kernel
theorem d_Ranking_stepDown_30 : decode prog_8_method_9_code 30 = .ok (.getfield 53, 3) := by decide +kernel
theorem d_Ranking_stepDown_33 : decode prog_8_method_9_code 33 = .ok (.iload_n 1, 1) := by decide +kernel
theorem d_Ranking_stepDown_34 : decode prog_8_method_9_code 34 = .ok (.isub, 1) := by decide +kernel
theorem d_Ranking_stepDown_35 : decode prog_8_method_9_code 35 = .ok (.iconst 1, 1) := by decide +kernel
theorem d_Ranking_stepDown_36 : decode prog_8_method_9_code 36 = .ok (.invokevirtual 82, 3) := by decide +kernel
theorem d_Ranking_stepDown_39 : decode prog_8_method_9_code 39 = .ok (.iload_n 1, 1) := by decide +kernel
theorem d_Ranking_stepDown_40 : decode prog_8_method_9_code 40 = .ok (.ifCond .le 31, 3) := by decide +kernel
theorem d_Ranking_stepDown_43 : decode prog_8_method_9_code 43 = .ok (.iconst 2, 1) := by decide +kernel
theorem d_Ranking_stepDown_44 : decode prog_8_method_9_code 44 = .ok (.aload_n 0, 1) := by decide +kernel
theorem d_Ranking_stepDown_45 : decode prog_8_method_9_code 45 = .ok (.getfield 34, 3) := by decide +kernel
theorem d_Ranking_stepDown_48 : decode prog_8_method_9_code 48 = .ok (.iload_n 1, 1) := by decide +kernel
theorem d_Ranking_stepDown_49 : decode prog_8_method_9_code 49 = .ok (.iconst 1, 1) := by decide +kernel
theorem d_Ranking_stepDown_50 : decode prog_8_method_9_code 50 = .ok (.isub, 1) := by decide +kernel
theorem d_Ranking_stepDown_51 : decode prog_8_method_9_code 51 = .ok (.iaload, 1) := by decide +kernel
theorem d_Ranking_stepDown_52 : decode prog_8_method_9_code 52 = .ok (.invokestatic 78, 3) := by decide +kernel
theorem d_Ranking_stepDown_55 : decode prog_8_method_9_code 55 = .ok (.istore_n 3, 1) := by decide +kernel
theorem d_Ranking_stepDown_56 : decode prog_8_method_9_code 56 = .ok (.aload_n 0, 1) := by decide +kernel
theorem d_Ranking_stepDown_57 : decode prog_8_method_9_code 57 = .ok (.iload_n 3, 1) := by decide +kernel
theorem d_Ranking_stepDown_58 : decode prog_8_method_9_code 58 = .ok (.iload_n 2, 1) := by decide +kernel
theorem d_Ranking_stepDown_59 : decode prog_8_method_9_code 59 = .ok (.invokevirtual 138, 3) := by decide +kernel
theorem d_Ranking_stepDown_62 : decode prog_8_method_9_code 62 = .ok (.ifCond .le 9, 3) := by decide +kernel
theorem d_Ranking_stepDown_65 : decode prog_8_method_9_code 65 = .ok (.aload_n 0, 1) := by decide +kernel
theorem d_Ranking_stepDown_66 : decode prog_8_method_9_code 66 = .ok (.iload_n 3, 1) := by decide +kernel
theorem d_Ranking_stepDown_67 : decode prog_8_method_9_code 67 = .ok (.iload_n 2, 1) := by decide +kernel
theorem d_Ranking_stepDown_68 : decode prog_8_method_9_code 68 = .ok (.invokevirtual 141, 3) := by decide +kernel
theorem d_Ranking_stepDown_71 : decode prog_8_method_9_code 71 = .ok (.iinc 1 1, 3) := by decide +kernel
theorem d_Ranking_stepDown_74 : decode prog_8_method_9_code 74 = .ok (.goto (-72), 3) := by decide +kernel
theorem d_Ranking_stepDown_77 : decode prog_8_method_9_code 77 = .ok (.return_, 1) := by decide +kernel
noncomputable def M_Ranking_stepDown_b71 (x1 : Int32) (u : gSt) : Option ((Int32 × gSt) ⊕ ((gSt))) :=
  some (.inl (x1 + (1 : Int32), u))
set_option maxHeartbeats 4000000 in
set_option maxRecDepth 100000 in
theorem t_Ranking_stepDown_b71 (C : gX "TermDesk$Ranking" prog_8_method_9_code 4 none 3 105 R cells slots cy D ρ A p s m args meth c) {x1 : Int32} {u : gSt} {z : (Int32 × gSt) ⊕ ((gSt))} (hM : M_Ranking_stepDown_b71 x1 u = some z) (hN : ∀ x1' u', z = .inl (x1', u') → gAt p l e R s m args below meth c Q H0 cells slots cy D ρ A 4 2 [(0, .ref (ρ 27)), (1, .int (x1'))] [] (u')) (hE0 : ∀ u', z = .inr u' → gAt p l e R s m args below meth c Q H0 cells slots cy D ρ A 4 77 [] [] (u')) : gAt p l e R s m args below meth c Q H0 cells slots cy D ρ A 4 71 [(0, .ref (ρ 27)), (1, .int x1)] [] u := by
  intro ls H locs hl hP hS
  have hx := C.1
  have hb := C.2.1
  unfold M_Ranking_stepDown_b71 at hM
  refine lv_iinc (k := 1) (v := x1 + (1 : Int32)) (lv' := [(1, .int (x1 + (1 : Int32))), (0, .ref (ρ 27))]) hx hb d_Ranking_stepDown_71 hl rfl (congrArg (fun z => x1 + z) (by decide)) (by decide) rfl (fun ls hl => ?_)
  refine lv_goto (tgt := 2) hx hb d_Ranking_stepDown_74 (by decide) ?_
  exact hN _ _ (Option.some.inj hM).symm ls H locs (lv_sub hl [1, 0] rfl) hP hS
noncomputable def M_Ranking_stepDown_b2 (x1 : Int32) (u : gSt) : Option ((Int32 × gSt) ⊕ ((gSt))) :=
  if (u.1 27 12) ≤ x1 then
    (some (.inr u))
  else
    (gc (gIn x1 (gLen 34)) <| (M_Ranking_slot (2 : Int32) (u.2.2.1 34 (gIx x1)) u).bind fun q17 =>
    gc (gIn x1 (gLen 34)) <| (M_Ranking_setCapped q17.1 (q17.2.2.2.1 34 (gIx x1)) ((q17.2.1 27 12) - x1) (1 : Int32) q17.2).bind fun q36 =>
    if x1 ≤ (0 : Int32) then
      (M_Ranking_stepDown_b71 x1 q36)
    else
      (gc (gIn (x1 - (1 : Int32)) (gLen 34)) <| (M_Ranking_slot (2 : Int32) (q36.2.2.1 34 (gIx (x1 - (1 : Int32)))) q36).bind fun q52 =>
      (M_Ranking_compareSlots q52.1 q17.1 q52.2).bind fun q59 =>
      if q59.1 ≤ (0 : Int32) then
        (M_Ranking_stepDown_b71 x1 q59.2)
      else
        ((M_Ranking_copySlot q52.1 q17.1 q59.2).bind fun q68 =>
        M_Ranking_stepDown_b71 x1 q68)))
set_option maxHeartbeats 4000000 in
set_option maxRecDepth 100000 in
theorem t_Ranking_stepDown_b2 (C : gX "TermDesk$Ranking" prog_8_method_9_code 4 none 3 105 R cells slots cy D ρ A p s m args meth c) {x1 : Int32} {u : gSt} {z : (Int32 × gSt) ⊕ ((gSt))} (hM : M_Ranking_stepDown_b2 x1 u = some z) (hN : ∀ x1' u', z = .inl (x1', u') → gAt p l e R s m args below meth c Q H0 cells slots cy D ρ A 4 2 [(0, .ref (ρ 27)), (1, .int (x1'))] [] (u')) (hE0 : ∀ u', z = .inr u' → gAt p l e R s m args below meth c Q H0 cells slots cy D ρ A 4 77 [] [] (u')) : gAt p l e R s m args below meth c Q H0 cells slots cy D ρ A 4 2 [(0, .ref (ρ 27)), (1, .int x1)] [] u := by
  intro ls H locs hl hP hS
  have hx := C.1
  have hb := C.2.1
  unfold M_Ranking_stepDown_b2 at hM
  refine lv_iload_n hx hb d_Ranking_stepDown_2 rfl (lv_at hl 1 rfl) ?_
  refine lv_aload_n hx hb d_Ranking_stepDown_3 rfl (lv_at hl 0 rfl) ?_
  refine g_getI C hP gl_Ranking_53 rfl rfl d_Ranking_stepDown_4 ?_
  refine lv_icmp_ge (tgt := 77) hx hb d_Ranking_stepDown_7 (by decide) (fun hc7 => ?_) (fun hc7 => ?_)
  · replace hM := gi_t hc7 hM
    exact hE0 _ (Option.some.inj hM).symm ls H locs (lv_sub hl [] rfl) hP hS
  · replace hM := gi_f hc7 hM
    refine lv_iconst (v := (2 : Int32)) hx hb d_Ranking_stepDown_10 (by decide) ?_
    refine lv_aload_n hx hb d_Ranking_stepDown_11 rfl (lv_at hl 0 rfl) ?_
    refine g_getR (b := 34) C hP gl_Ranking_34 rfl rfl rfl d_Ranking_stepDown_12 ?_
    refine lv_iload_n hx hb d_Ranking_stepDown_15 rfl (lv_at hl 1 rfl) ?_
    obtain ⟨hi16, hM⟩ := gc_some hM
    refine g_iald C hP rfl hi16 d_Ranking_stepDown_16 ?_
    obtain ⟨q17, hq17, hM⟩ := gb_some hM
    refine g_backI (g_runS (As := [.int (2 : Int32), .int (u.2.2.1 34 (gIx x1))]) C hP (c_Ranking_slot C.2.2.2.2.2.2.2.2.1 hq17) gi_Ranking_slot gm_Ranking_78 rfl (by decide) (by decide) hl.1 rfl (Nat.le_of_ble_eq_true rfl) d_Ranking_stepDown_17) hS (fun H locs hP hS => ?_)
    refine lv_istore_n (lv' := [(2, .int q17.1), (0, .ref (ρ 27)), (1, .int x1)]) hx hb d_Ranking_stepDown_20 rfl hl (by decide) rfl (fun ls hl => ?_)
    refine lv_aload_n hx hb d_Ranking_stepDown_21 rfl (lv_at hl 1 rfl) ?_
    refine lv_iload_n hx hb d_Ranking_stepDown_22 rfl (lv_at hl 0 rfl) ?_
    refine lv_aload_n hx hb d_Ranking_stepDown_23 rfl (lv_at hl 1 rfl) ?_
    refine g_getR (b := 34) C hP gl_Ranking_34 rfl rfl rfl d_Ranking_stepDown_24 ?_
    refine lv_iload_n hx hb d_Ranking_stepDown_27 rfl (lv_at hl 2 rfl) ?_
    obtain ⟨hi28, hM⟩ := gc_some hM
    refine g_iald C hP rfl hi28 d_Ranking_stepDown_28 ?_
    refine lv_aload_n hx hb d_Ranking_stepDown_29 rfl (lv_at hl 1 rfl) ?_
    refine g_getI C hP gl_Ranking_53 rfl rfl d_Ranking_stepDown_30 ?_
    refine lv_iload_n hx hb d_Ranking_stepDown_33 rfl (lv_at hl 2 rfl) ?_
    refine lv_isub hx hb d_Ranking_stepDown_34 ?_
    refine lv_iconst (v := (1 : Int32)) hx hb d_Ranking_stepDown_35 (by decide) ?_
    obtain ⟨q36, hq36, hM⟩ := gb_some hM
    refine g_backV (g_runV (As := [.int q17.1, .int (q17.2.2.2.1 34 (gIx x1)), .int ((q17.2.1 27 12) - x1), .int (1 : Int32)]) C hP (c_Ranking_setCapped C.2.2.2.2.2.2.2.2.1 hq36) gi_Ranking_setCapped gm_Ranking_82 rfl rfl (by decide) (by decide) hl.1 rfl (Nat.le_of_ble_eq_true rfl) d_Ranking_stepDown_36) hS (fun H locs hP hS => ?_)
    refine lv_iload_n hx hb d_Ranking_stepDown_39 rfl (lv_at hl 2 rfl) ?_
    refine lv_if_le (tgt := 71) hx hb d_Ranking_stepDown_40 (by decide) (fun hc40 => ?_) (fun hc40 => ?_)
    · replace hM := gi_t hc40 hM
      exact t_Ranking_stepDown_b71 C hM hN hE0 ls H locs (lv_sub hl [1, 2] rfl) hP hS
    · replace hM := gi_f hc40 hM
      refine lv_iconst (v := (2 : Int32)) hx hb d_Ranking_stepDown_43 (by decide) ?_
      refine lv_aload_n hx hb d_Ranking_stepDown_44 rfl (lv_at hl 1 rfl) ?_
      refine g_getR (b := 34) C hP gl_Ranking_34 rfl rfl rfl d_Ranking_stepDown_45 ?_
      refine lv_iload_n hx hb d_Ranking_stepDown_48 rfl (lv_at hl 2 rfl) ?_
      refine lv_iconst (v := (1 : Int32)) hx hb d_Ranking_stepDown_49 (by decide) ?_
      refine lv_isub hx hb d_Ranking_stepDown_50 ?_
      obtain ⟨hi51, hM⟩ := gc_some hM
      refine g_iald C hP rfl hi51 d_Ranking_stepDown_51 ?_
      obtain ⟨q52, hq52, hM⟩ := gb_some hM
      refine g_backI (g_runS (As := [.int (2 : Int32), .int (q36.2.2.1 34 (gIx (x1 - (1 : Int32))))]) C hP (c_Ranking_slot C.2.2.2.2.2.2.2.2.1 hq52) gi_Ranking_slot gm_Ranking_78 rfl (by decide) (by decide) hl.1 rfl (Nat.le_of_ble_eq_true rfl) d_Ranking_stepDown_52) hS (fun H locs hP hS => ?_)
      refine lv_istore_n (lv' := [(3, .int q52.1), (2, .int q17.1), (0, .ref (ρ 27)), (1, .int x1)]) hx hb d_Ranking_stepDown_55 rfl hl (by decide) rfl (fun ls hl => ?_)
      refine lv_aload_n hx hb d_Ranking_stepDown_56 rfl (lv_at hl 2 rfl) ?_
      refine lv_iload_n hx hb d_Ranking_stepDown_57 rfl (lv_at hl 0 rfl) ?_
      refine lv_iload_n hx hb d_Ranking_stepDown_58 rfl (lv_at hl 1 rfl) ?_
      obtain ⟨q59, hq59, hM⟩ := gb_some hM
      refine g_backI (g_runV (As := [.int q52.1, .int q17.1]) C hP (c_Ranking_compareSlots C.2.2.2.2.2.2.2.2.1 hq59) gi_Ranking_compareSlots gm_Ranking_138 rfl rfl (by decide) (by decide) hl.1 rfl (Nat.le_of_ble_eq_true rfl) d_Ranking_stepDown_59) hS (fun H locs hP hS => ?_)
      refine lv_if_le (tgt := 71) hx hb d_Ranking_stepDown_62 (by decide) (fun hc62 => ?_) (fun hc62 => ?_)
      · replace hM := gi_t hc62 hM
        exact t_Ranking_stepDown_b71 C hM hN hE0 ls H locs (lv_sub hl [2, 3] rfl) hP hS
      · replace hM := gi_f hc62 hM
        refine lv_aload_n hx hb d_Ranking_stepDown_65 rfl (lv_at hl 2 rfl) ?_
        refine lv_iload_n hx hb d_Ranking_stepDown_66 rfl (lv_at hl 0 rfl) ?_
        refine lv_iload_n hx hb d_Ranking_stepDown_67 rfl (lv_at hl 1 rfl) ?_
        obtain ⟨q68, hq68, hM⟩ := gb_some hM
        refine g_backV (g_runV (As := [.int q52.1, .int q17.1]) C hP (c_Ranking_copySlot C.2.2.2.2.2.2.2.2.1 hq68) gi_Ranking_copySlot gm_Ranking_141 rfl rfl (by decide) (by decide) hl.1 rfl (Nat.le_of_ble_eq_true rfl) d_Ranking_stepDown_68) hS (fun H locs hP hS => ?_)
        exact t_Ranking_stepDown_b71 C hM hN hE0 ls H locs (lv_sub hl [2, 3] rfl) hP hS
noncomputable def M_Ranking_stepDown_L2 : (Int32 × gSt) → Option ((Int32 × gSt) ⊕ ((gSt))) := fun x => M_Ranking_stepDown_b2 x.1 x.2
theorem t_Ranking_stepDown_L2 (C : gX "TermDesk$Ranking" prog_8_method_9_code 4 none 3 105 R cells slots cy D ρ A p s m args meth c) {x1 : Int32} {u : gSt} {yy : (gSt)} (hL : gLp M_Ranking_stepDown_L2 (x1, u) = some yy) (hE0 : (∀ y', yy = y' → gAt p l e R s m args below meth c Q H0 cells slots cy D ρ A 4 77 [] [] (y'))) : gAt p l e R s m args below meth c Q H0 cells slots cy D ρ A 4 2 [(0, .ref (ρ 27)), (1, .int x1)] [] u :=
  g_loop (f := M_Ranking_stepDown_L2) (P := fun x => gAt p l e R s m args below meth c Q H0 cells slots cy D ρ A 4 2 [(0, .ref (ρ 27)), (1, .int x.1)] [] x.2) (E := fun yy => (∀ y', yy = y' → gAt p l e R s m args below meth c Q H0 cells slots cy D ρ A 4 77 [] [] (y'))) (fun x z hf hN hE => t_Ranking_stepDown_b2 C hf (fun x1' u' h => hN (x1', u') h) (fun u' h => (hE _ h) u' rfl)) hL hE0
noncomputable def M_Ranking_stepDown (u : gSt) : Option (gSt) :=
  (gLp M_Ranking_stepDown_L2 ((0 : Int32), u)).bind fun y2 =>
  some y2
set_option maxHeartbeats 4000000 in
set_option maxRecDepth 100000 in
theorem t_Ranking_stepDown (C : gX "TermDesk$Ranking" prog_8_method_9_code 4 none 3 105 R cells slots cy D ρ A p s m args meth c) {u : gSt} {z : gSt} (hM : M_Ranking_stepDown u = some z) (hR : gRtV p l e R s m args below meth c Q H0 cells slots cy D ρ A prog_8_method_9_code z) : gAt p l e R s m args below meth c Q H0 cells slots cy D ρ A 4 0 [(0, .ref (ρ 27))] [] u := by
  intro ls H locs hl hP hS
  have hx := C.1
  have hb := C.2.1
  unfold M_Ranking_stepDown at hM
  refine lv_iconst (v := (0 : Int32)) hx hb d_Ranking_stepDown_0 (by decide) ?_
  refine lv_istore_n (lv' := [(1, .int (0 : Int32)), (0, .ref (ρ 27))]) hx hb d_Ranking_stepDown_1 rfl hl (by decide) rfl (fun ls hl => ?_)
  obtain ⟨y2, hL2, hM⟩ := gb_some hM
  refine t_Ranking_stepDown_L2 C hL2 (fun y2_0 hy => ?_) ls H locs (lv_sub hl [1, 0] rfl) hP hS
  · subst hy
    intro ls H locs hl hP hS
    obtain rfl := Option.some.inj hM
    exact hR _ ls H locs d_Ranking_stepDown_77 hP hS
theorem c_Ranking_stepDown {l : Launch} {cy : Nat → ClassId} {D : va_G} {ρ : Nat → Nat} {A : Nat → Prop} (hD : gD ρ A) {u : gSt} {z : gSt} (hM : M_Ranking_stepDown u = some z) : gCtV l y_Ranking_stepDown prog_8_method_9_code 4 none 3 105 cy D ρ A [.ref (ρ 27)] u z :=
  g_met (by decide) hD (Nat.le_of_ble_eq_true rfl) (fun p e s m below meth c ls X hl hP => t_Ranking_stepDown X hM (fun pc ls H locs hd hP hS => g_vret X hP hS hd) ls _ [] hl hP va_S.rf)
end
section
variable {p : Program} {l : Launch} {e : Env} {R : Room} {s : State} {m : MethodId} {args : Array Value} {below : List Frame} {meth : Method} {c : Code} {Q : State → Prop} {H0 : Heap} {cells slots : Nat} {cy : Nat → ClassId} {D : va_G} {ρ : Nat → Nat} {A : Nat → Prop}
def y_Ranking_stepUp : MethodName := ⟨"TermDesk$Ranking", "stepUp", "()V"⟩
theorem gi_Ranking_stepUp : gMi y_Ranking_stepUp prog_8_method_10_code 4 none 0 6 := ⟨(gWs_at 942 (by decide +kernel) (by decide +kernel)), (gWs_at 941 (by decide +kernel) (by decide +kernel)), (gWs_at 54 (by decide +kernel) (by decide +kernel)), (gWs_at 123 (by decide +kernel) (by decide +kernel)), ⟨by decide +kernel, by decide +kernel, by decide +kernel⟩, _, _, rfl⟩
theorem gm_Ranking_89 : gMk "TermDesk$Ranking" 89 y_Ranking_stepUp := Or.inl (gWs_at 939 (by decide +kernel) (by decide +kernel))
theorem d_Ranking_stepUp_0 : decode prog_8_method_10_code 0 = .ok (.aload_n 0, 1) := by decide +kernel
theorem d_Ranking_stepUp_1 : decode prog_8_method_10_code 1 = .ok (.getfield 53, 3) := by decide +kernel
theorem d_Ranking_stepUp_4 : decode prog_8_method_10_code 4 = .ok (.iconst 1, 1) := by decide +kernel
theorem d_Ranking_stepUp_5 : decode prog_8_method_10_code 5 = .ok (.isub, 1) := by decide +kernel
theorem d_Ranking_stepUp_6 : decode prog_8_method_10_code 6 = .ok (.istore_n 1, 1) := by decide +kernel
theorem d_Ranking_stepUp_7 : decode prog_8_method_10_code 7 = .ok (.iload_n 1, 1) := by decide +kernel
theorem d_Ranking_stepUp_8 : decode prog_8_method_10_code 8 = .ok (.ifCond .lt 76, 3) := by decide +kernel
theorem d_Ranking_stepUp_11 : decode prog_8_method_10_code 11 = .ok (.iconst 3, 1) := by decide +kernel
theorem d_Ranking_stepUp_12 : decode prog_8_method_10_code 12 = .ok (.aload_n 0, 1) := by decide +kernel
theorem d_Ranking_stepUp_13 : decode prog_8_method_10_code 13 = .ok (.getfield 34, 3) := by decide +kernel
theorem d_Ranking_stepUp_16 : decode prog_8_method_10_code 16 = .ok (.iload_n 1, 1) := by decide +kernel
theorem d_Ranking_stepUp_17 : decode prog_8_method_10_code 17 = .ok (.iaload, 1) := by decide +kernel
theorem d_Ranking_stepUp_18 : decode prog_8_method_10_code 18 = .ok (.invokestatic 78, 3) := by decide +kernel
theorem d_Ranking_stepUp_21 : decode prog_8_method_10_code 21 = .ok (.istore_n 2, 1) := by decide +kernel
theorem d_Ranking_stepUp_22 : decode prog_8_method_10_code 22 = .ok (.aload_n 0, 1) := by decide +kernel
theorem d_Ranking_stepUp_23 : decode prog_8_method_10_code 23 = .ok (.iload_n 2, 1) := by decide +kernel
theorem d_Ranking_stepUp_24 : decode prog_8_method_10_code 24 = .ok (.aload_n 0, 1) := by decide +kernel
theorem d_Ranking_stepUp_25 : decode prog_8_method_10_code 25 = .ok (.getfield 34, 3) := by decide +kernel
theorem d_Ranking_stepUp_28 : decode prog_8_method_10_code 28 = .ok (.iload_n 1, 1) := by decide +kernel
theorem d_Ranking_stepUp_29 : decode prog_8_method_10_code 29 = .ok (.iaload, 1) := by decide +kernel
theorem d_Ranking_stepUp_30 : decode prog_8_method_10_code 30 = .ok (.aload_n 0, 1) := by decide +kernel
theorem d_Ranking_stepUp_31 : decode prog_8_method_10_code 31 = .ok (.getfield 53, 3) := by decide +kernel
theorem d_Ranking_stepUp_34 : decode prog_8_method_10_code 34 = .ok (.iload_n 1, 1) := by decide +kernel
theorem d_Ranking_stepUp_35 : decode prog_8_method_10_code 35 = .ok (.iconst 1, 1) := by decide +kernel
theorem d_Ranking_stepUp_36 : decode prog_8_method_10_code 36 = .ok (.iadd, 1) := by decide +kernel
theorem d_Ranking_stepUp_37 : decode prog_8_method_10_code 37 = .ok (.invokevirtual 82, 3) := by decide +kernel
theorem d_Ranking_stepUp_40 : decode prog_8_method_10_code 40 = .ok (.iload_n 1, 1) := by decide +kernel
theorem d_Ranking_stepUp_41 : decode prog_8_method_10_code 41 = .ok (.aload_n 0, 1) := by decide +kernel
theorem d_Ranking_stepUp_42 : decode prog_8_method_10_code 42 = .ok (.getfield 53, 3) := by decide +kernel
theorem d_Ranking_stepUp_45 : decode prog_8_method_10_code 45 = .ok (.iconst 1, 1) := by decide +kernel
theorem d_Ranking_stepUp_46 : decode prog_8_method_10_code 46 = .ok (.isub, 1) := by decide +kernel
theorem d_Ranking_stepUp_47 : decode prog_8_method_10_code 47 = .ok (.if_icmp .ge 31, 3) := by decide +kernel
theorem d_Ranking_stepUp_50 : decode prog_8_method_10_code 50 = .ok (.iconst 3, 1) := by decide +kernel
theorem d_Ranking_stepUp_51 : decode prog_8_method_10_code 51 = .ok (.aload_n 0, 1) := by decide +kernel
theorem d_Ranking_stepUp_52 : decode prog_8_method_10_code 52 = .ok (.getfield 34, 3) := by decide +kernel
theorem d_Ranking_stepUp_55 : decode prog_8_method_10_code 55 = .ok (.iload_n 1, 1) := by decide +kernel
theorem d_Ranking_stepUp_56 : decode prog_8_method_10_code 56 = .ok (.iconst 1, 1) := by decide +kernel
theorem d_Ranking_stepUp_57 : decode prog_8_method_10_code 57 = .ok (.iadd, 1) := by decide +kernel
theorem d_Ranking_stepUp_58 : decode prog_8_method_10_code 58 = .ok (.iaload, 1) := by decide +kernel
theorem d_Ranking_stepUp_59 : decode prog_8_method_10_code 59 = .ok (.invokestatic 78, 3) := by decide +kernel
theorem d_Ranking_stepUp_62 : decode prog_8_method_10_code 62 = .ok (.istore_n 3, 1) := by decide +kernel
theorem d_Ranking_stepUp_63 : decode prog_8_method_10_code 63 = .ok (.aload_n 0, 1) := by decide +kernel
theorem d_Ranking_stepUp_64 : decode prog_8_method_10_code 64 = .ok (.iload_n 3, 1) := by decide +kernel
theorem d_Ranking_stepUp_65 : decode prog_8_method_10_code 65 = .ok (.iload_n 2, 1) := by decide +kernel
theorem d_Ranking_stepUp_66 : decode prog_8_method_10_code 66 = .ok (.invokevirtual 138, 3) := by decide +kernel
theorem d_Ranking_stepUp_69 : decode prog_8_method_10_code 69 = .ok (.ifCond .ge 9, 3) := by decide +kernel
theorem d_Ranking_stepUp_72 : decode prog_8_method_10_code 72 = .ok (.aload_n 0, 1) := by decide +kernel
theorem d_Ranking_stepUp_73 : decode prog_8_method_10_code 73 = .ok (.iload_n 3, 1) := by decide +kernel
theorem d_Ranking_stepUp_74 : decode prog_8_method_10_code 74 = .ok (.iload_n 2, 1) := by decide +kernel
theorem d_Ranking_stepUp_75 : decode prog_8_method_10_code 75 = .ok (.invokevirtual 141, 3) := by decide +kernel
theorem d_Ranking_stepUp_78 : decode prog_8_method_10_code 78 = .ok (.iinc 1 (-1), 3) := by decide +kernel
theorem d_Ranking_stepUp_81 : decode prog_8_method_10_code 81 = .ok (.goto (-74), 3) := by decide +kernel
theorem d_Ranking_stepUp_84 : decode prog_8_method_10_code 84 = .ok (.return_, 1) := by decide +kernel
noncomputable def M_Ranking_stepUp_b78 (x1 : Int32) (u : gSt) : Option ((Int32 × gSt) ⊕ ((gSt))) :=
  some (.inl (x1 + (-1 : Int32), u))
set_option maxHeartbeats 4000000 in
set_option maxRecDepth 100000 in
theorem t_Ranking_stepUp_b78 (C : gX "TermDesk$Ranking" prog_8_method_10_code 4 none 3 105 R cells slots cy D ρ A p s m args meth c) {x1 : Int32} {u : gSt} {z : (Int32 × gSt) ⊕ ((gSt))} (hM : M_Ranking_stepUp_b78 x1 u = some z) (hN : ∀ x1' u', z = .inl (x1', u') → gAt p l e R s m args below meth c Q H0 cells slots cy D ρ A 4 7 [(0, .ref (ρ 27)), (1, .int (x1'))] [] (u')) (hE0 : ∀ u', z = .inr u' → gAt p l e R s m args below meth c Q H0 cells slots cy D ρ A 4 84 [] [] (u')) : gAt p l e R s m args below meth c Q H0 cells slots cy D ρ A 4 78 [(0, .ref (ρ 27)), (1, .int x1)] [] u := by
  intro ls H locs hl hP hS
  have hx := C.1
  have hb := C.2.1
  unfold M_Ranking_stepUp_b78 at hM
  refine lv_iinc (k := 1) (v := x1 + (-1 : Int32)) (lv' := [(1, .int (x1 + (-1 : Int32))), (0, .ref (ρ 27))]) hx hb d_Ranking_stepUp_78 hl rfl (congrArg (fun z => x1 + z) (by decide)) (by decide) rfl (fun ls hl => ?_)
  refine lv_goto (tgt := 7) hx hb d_Ranking_stepUp_81 (by decide) ?_
  exact hN _ _ (Option.some.inj hM).symm ls H locs (lv_sub hl [1, 0] rfl) hP hS
noncomputable def M_Ranking_stepUp_b7 (x1 : Int32) (u : gSt) : Option ((Int32 × gSt) ⊕ ((gSt))) :=
  if x1 < (0 : Int32) then
    (some (.inr u))
  else
    (gc (gIn x1 (gLen 34)) <| (M_Ranking_slot (3 : Int32) (u.2.2.1 34 (gIx x1)) u).bind fun q18 =>
    gc (gIn x1 (gLen 34)) <| (M_Ranking_setCapped q18.1 (q18.2.2.2.1 34 (gIx x1)) (q18.2.1 27 12) (x1 + (1 : Int32)) q18.2).bind fun q37 =>
    if ((q37.1 27 12) - (1 : Int32)) ≤ x1 then
      (M_Ranking_stepUp_b78 x1 q37)
    else
      (gc (gIn (x1 + (1 : Int32)) (gLen 34)) <| (M_Ranking_slot (3 : Int32) (q37.2.2.1 34 (gIx (x1 + (1 : Int32)))) q37).bind fun q59 =>
      (M_Ranking_compareSlots q59.1 q18.1 q59.2).bind fun q66 =>
      if (0 : Int32) ≤ q66.1 then
        (M_Ranking_stepUp_b78 x1 q66.2)
      else
        ((M_Ranking_copySlot q59.1 q18.1 q66.2).bind fun q75 =>
        M_Ranking_stepUp_b78 x1 q75)))
set_option maxHeartbeats 4000000 in
set_option maxRecDepth 100000 in
theorem t_Ranking_stepUp_b7 (C : gX "TermDesk$Ranking" prog_8_method_10_code 4 none 3 105 R cells slots cy D ρ A p s m args meth c) {x1 : Int32} {u : gSt} {z : (Int32 × gSt) ⊕ ((gSt))} (hM : M_Ranking_stepUp_b7 x1 u = some z) (hN : ∀ x1' u', z = .inl (x1', u') → gAt p l e R s m args below meth c Q H0 cells slots cy D ρ A 4 7 [(0, .ref (ρ 27)), (1, .int (x1'))] [] (u')) (hE0 : ∀ u', z = .inr u' → gAt p l e R s m args below meth c Q H0 cells slots cy D ρ A 4 84 [] [] (u')) : gAt p l e R s m args below meth c Q H0 cells slots cy D ρ A 4 7 [(0, .ref (ρ 27)), (1, .int x1)] [] u := by
  intro ls H locs hl hP hS
  have hx := C.1
  have hb := C.2.1
  unfold M_Ranking_stepUp_b7 at hM
  refine lv_iload_n hx hb d_Ranking_stepUp_7 rfl (lv_at hl 1 rfl) ?_
  refine lv_if_lt (tgt := 84) hx hb d_Ranking_stepUp_8 (by decide) (fun hc8 => ?_) (fun hc8 => ?_)
  · replace hM := gi_t hc8 hM
    exact hE0 _ (Option.some.inj hM).symm ls H locs (lv_sub hl [] rfl) hP hS
  · replace hM := gi_f hc8 hM
    refine lv_iconst (v := (3 : Int32)) hx hb d_Ranking_stepUp_11 (by decide) ?_
    refine lv_aload_n hx hb d_Ranking_stepUp_12 rfl (lv_at hl 0 rfl) ?_
    refine g_getR (b := 34) C hP gl_Ranking_34 rfl rfl rfl d_Ranking_stepUp_13 ?_
    refine lv_iload_n hx hb d_Ranking_stepUp_16 rfl (lv_at hl 1 rfl) ?_
    obtain ⟨hi17, hM⟩ := gc_some hM
    refine g_iald C hP rfl hi17 d_Ranking_stepUp_17 ?_
    obtain ⟨q18, hq18, hM⟩ := gb_some hM
    refine g_backI (g_runS (As := [.int (3 : Int32), .int (u.2.2.1 34 (gIx x1))]) C hP (c_Ranking_slot C.2.2.2.2.2.2.2.2.1 hq18) gi_Ranking_slot gm_Ranking_78 rfl (by decide) (by decide) hl.1 rfl (Nat.le_of_ble_eq_true rfl) d_Ranking_stepUp_18) hS (fun H locs hP hS => ?_)
    refine lv_istore_n (lv' := [(2, .int q18.1), (0, .ref (ρ 27)), (1, .int x1)]) hx hb d_Ranking_stepUp_21 rfl hl (by decide) rfl (fun ls hl => ?_)
    refine lv_aload_n hx hb d_Ranking_stepUp_22 rfl (lv_at hl 1 rfl) ?_
    refine lv_iload_n hx hb d_Ranking_stepUp_23 rfl (lv_at hl 0 rfl) ?_
    refine lv_aload_n hx hb d_Ranking_stepUp_24 rfl (lv_at hl 1 rfl) ?_
    refine g_getR (b := 34) C hP gl_Ranking_34 rfl rfl rfl d_Ranking_stepUp_25 ?_
    refine lv_iload_n hx hb d_Ranking_stepUp_28 rfl (lv_at hl 2 rfl) ?_
    obtain ⟨hi29, hM⟩ := gc_some hM
    refine g_iald C hP rfl hi29 d_Ranking_stepUp_29 ?_
    refine lv_aload_n hx hb d_Ranking_stepUp_30 rfl (lv_at hl 1 rfl) ?_
    refine g_getI C hP gl_Ranking_53 rfl rfl d_Ranking_stepUp_31 ?_
    refine lv_iload_n hx hb d_Ranking_stepUp_34 rfl (lv_at hl 2 rfl) ?_
    refine lv_iconst (v := (1 : Int32)) hx hb d_Ranking_stepUp_35 (by decide) ?_
    refine lv_iadd hx hb d_Ranking_stepUp_36 ?_
    obtain ⟨q37, hq37, hM⟩ := gb_some hM
    refine g_backV (g_runV (As := [.int q18.1, .int (q18.2.2.2.1 34 (gIx x1)), .int (q18.2.1 27 12), .int (x1 + (1 : Int32))]) C hP (c_Ranking_setCapped C.2.2.2.2.2.2.2.2.1 hq37) gi_Ranking_setCapped gm_Ranking_82 rfl rfl (by decide) (by decide) hl.1 rfl (Nat.le_of_ble_eq_true rfl) d_Ranking_stepUp_37) hS (fun H locs hP hS => ?_)
    refine lv_iload_n hx hb d_Ranking_stepUp_40 rfl (lv_at hl 2 rfl) ?_
    refine lv_aload_n hx hb d_Ranking_stepUp_41 rfl (lv_at hl 1 rfl) ?_
    refine g_getI C hP gl_Ranking_53 rfl rfl d_Ranking_stepUp_42 ?_
    refine lv_iconst (v := (1 : Int32)) hx hb d_Ranking_stepUp_45 (by decide) ?_
    refine lv_isub hx hb d_Ranking_stepUp_46 ?_
    refine lv_icmp_ge (tgt := 78) hx hb d_Ranking_stepUp_47 (by decide) (fun hc47 => ?_) (fun hc47 => ?_)
    · replace hM := gi_t hc47 hM
      exact t_Ranking_stepUp_b78 C hM hN hE0 ls H locs (lv_sub hl [1, 2] rfl) hP hS
    · replace hM := gi_f hc47 hM
      refine lv_iconst (v := (3 : Int32)) hx hb d_Ranking_stepUp_50 (by decide) ?_
      refine lv_aload_n hx hb d_Ranking_stepUp_51 rfl (lv_at hl 1 rfl) ?_
      refine g_getR (b := 34) C hP gl_Ranking_34 rfl rfl rfl d_Ranking_stepUp_52 ?_
      refine lv_iload_n hx hb d_Ranking_stepUp_55 rfl (lv_at hl 2 rfl) ?_
      refine lv_iconst (v := (1 : Int32)) hx hb d_Ranking_stepUp_56 (by decide) ?_
      refine lv_iadd hx hb d_Ranking_stepUp_57 ?_
      obtain ⟨hi58, hM⟩ := gc_some hM
      refine g_iald C hP rfl hi58 d_Ranking_stepUp_58 ?_
      obtain ⟨q59, hq59, hM⟩ := gb_some hM
      refine g_backI (g_runS (As := [.int (3 : Int32), .int (q37.2.2.1 34 (gIx (x1 + (1 : Int32))))]) C hP (c_Ranking_slot C.2.2.2.2.2.2.2.2.1 hq59) gi_Ranking_slot gm_Ranking_78 rfl (by decide) (by decide) hl.1 rfl (Nat.le_of_ble_eq_true rfl) d_Ranking_stepUp_59) hS (fun H locs hP hS => ?_)
      refine lv_istore_n (lv' := [(3, .int q59.1), (2, .int q18.1), (0, .ref (ρ 27)), (1, .int x1)]) hx hb d_Ranking_stepUp_62 rfl hl (by decide) rfl (fun ls hl => ?_)
      refine lv_aload_n hx hb d_Ranking_stepUp_63 rfl (lv_at hl 2 rfl) ?_
      refine lv_iload_n hx hb d_Ranking_stepUp_64 rfl (lv_at hl 0 rfl) ?_
      refine lv_iload_n hx hb d_Ranking_stepUp_65 rfl (lv_at hl 1 rfl) ?_
      obtain ⟨q66, hq66, hM⟩ := gb_some hM
      refine g_backI (g_runV (As := [.int q59.1, .int q18.1]) C hP (c_Ranking_compareSlots C.2.2.2.2.2.2.2.2.1 hq66) gi_Ranking_compareSlots gm_Ranking_138 rfl rfl (by decide) (by decide) hl.1 rfl (Nat.le_of_ble_eq_true rfl) d_Ranking_stepUp_66) hS (fun H locs hP hS => ?_)
      refine lv_if_ge (tgt := 78) hx hb d_Ranking_stepUp_69 (by decide) (fun hc69 => ?_) (fun hc69 => ?_)
      · replace hM := gi_t hc69 hM
        exact t_Ranking_stepUp_b78 C hM hN hE0 ls H locs (lv_sub hl [2, 3] rfl) hP hS
      · replace hM := gi_f hc69 hM
        refine lv_aload_n hx hb d_Ranking_stepUp_72 rfl (lv_at hl 2 rfl) ?_
        refine lv_iload_n hx hb d_Ranking_stepUp_73 rfl (lv_at hl 0 rfl) ?_
        refine lv_iload_n hx hb d_Ranking_stepUp_74 rfl (lv_at hl 1 rfl) ?_
        obtain ⟨q75, hq75, hM⟩ := gb_some hM
        refine g_backV (g_runV (As := [.int q59.1, .int q18.1]) C hP (c_Ranking_copySlot C.2.2.2.2.2.2.2.2.1 hq75) gi_Ranking_copySlot gm_Ranking_141 rfl rfl (by decide) (by decide) hl.1 rfl (Nat.le_of_ble_eq_true rfl) d_Ranking_stepUp_75) hS (fun H locs hP hS => ?_)
        exact t_Ranking_stepUp_b78 C hM hN hE0 ls H locs (lv_sub hl [2, 3] rfl) hP hS
noncomputable def M_Ranking_stepUp_L7 : (Int32 × gSt) → Option ((Int32 × gSt) ⊕ ((gSt))) := fun x => M_Ranking_stepUp_b7 x.1 x.2
theorem t_Ranking_stepUp_L7 (C : gX "TermDesk$Ranking" prog_8_method_10_code 4 none 3 105 R cells slots cy D ρ A p s m args meth c) {x1 : Int32} {u : gSt} {yy : (gSt)} (hL : gLp M_Ranking_stepUp_L7 (x1, u) = some yy) (hE0 : (∀ y', yy = y' → gAt p l e R s m args below meth c Q H0 cells slots cy D ρ A 4 84 [] [] (y'))) : gAt p l e R s m args below meth c Q H0 cells slots cy D ρ A 4 7 [(0, .ref (ρ 27)), (1, .int x1)] [] u :=
  g_loop (f := M_Ranking_stepUp_L7) (P := fun x => gAt p l e R s m args below meth c Q H0 cells slots cy D ρ A 4 7 [(0, .ref (ρ 27)), (1, .int x.1)] [] x.2) (E := fun yy => (∀ y', yy = y' → gAt p l e R s m args below meth c Q H0 cells slots cy D ρ A 4 84 [] [] (y'))) (fun x z hf hN hE => t_Ranking_stepUp_b7 C hf (fun x1' u' h => hN (x1', u') h) (fun u' h => (hE _ h) u' rfl)) hL hE0
noncomputable def M_Ranking_stepUp (u : gSt) : Option (gSt) :=
  (gLp M_Ranking_stepUp_L7 ((u.1 27 12) - (1 : Int32), u)).bind fun y7 =>
  some y7
set_option maxHeartbeats 4000000 in
set_option maxRecDepth 100000 in
theorem t_Ranking_stepUp (C : gX "TermDesk$Ranking" prog_8_method_10_code 4 none 3 105 R cells slots cy D ρ A p s m args meth c) {u : gSt} {z : gSt} (hM : M_Ranking_stepUp u = some z) (hR : gRtV p l e R s m args below meth c Q H0 cells slots cy D ρ A prog_8_method_10_code z) : gAt p l e R s m args below meth c Q H0 cells slots cy D ρ A 4 0 [(0, .ref (ρ 27))] [] u := by
  intro ls H locs hl hP hS
  have hx := C.1
  have hb := C.2.1
  unfold M_Ranking_stepUp at hM
  refine lv_aload_n hx hb d_Ranking_stepUp_0 rfl (lv_at hl 0 rfl) ?_
  refine g_getI C hP gl_Ranking_53 rfl rfl d_Ranking_stepUp_1 ?_
  refine lv_iconst (v := (1 : Int32)) hx hb d_Ranking_stepUp_4 (by decide) ?_
  refine lv_isub hx hb d_Ranking_stepUp_5 ?_
  refine lv_istore_n (lv' := [(1, .int ((u.1 27 12) - (1 : Int32))), (0, .ref (ρ 27))]) hx hb d_Ranking_stepUp_6 rfl hl (by decide) rfl (fun ls hl => ?_)
  obtain ⟨y7, hL7, hM⟩ := gb_some hM
  refine t_Ranking_stepUp_L7 C hL7 (fun y7_0 hy => ?_) ls H locs (lv_sub hl [1, 0] rfl) hP hS
  · subst hy
    intro ls H locs hl hP hS
    obtain rfl := Option.some.inj hM
    exact hR _ ls H locs d_Ranking_stepUp_84 hP hS
theorem c_Ranking_stepUp {l : Launch} {cy : Nat → ClassId} {D : va_G} {ρ : Nat → Nat} {A : Nat → Prop} (hD : gD ρ A) {u : gSt} {z : gSt} (hM : M_Ranking_stepUp u = some z) : gCtV l y_Ranking_stepUp prog_8_method_10_code 4 none 3 105 cy D ρ A [.ref (ρ 27)] u z :=
  g_met (by decide) hD (Nat.le_of_ble_eq_true rfl) (fun p e s m below meth c ls X hl hP => t_Ranking_stepUp X hM (fun pc ls H locs hd hP hS => g_vret X hP hS hd) ls _ [] hl hP va_S.rf)
end
section
variable {p : Program} {l : Launch} {e : Env} {R : Room} {s : State} {m : MethodId} {args : Array Value} {below : List Frame} {meth : Method} {c : Code} {Q : State → Prop} {H0 : Heap} {cells slots : Nat} {cy : Nat → ClassId} {D : va_G} {ρ : Nat → Nat} {A : Nat → Prop}
def y_Ranking_rank : MethodName := ⟨"TermDesk$Ranking", "rank", "(LTermDesk$Board;)V"⟩
theorem gi_Ranking_rank : gMi y_Ranking_rank prog_8_method_4_code 3 none 1 6 := ⟨(gWs_at 864 (by decide +kernel) (by decide +kernel)), (gWs_at 863 (by decide +kernel) (by decide +kernel)), (gWs_at 45 (by decide +kernel) (by decide +kernel)), (gWs_at 123 (by decide +kernel) (by decide +kernel)), ⟨by decide +kernel, by decide +kernel, by decide +kernel⟩, _, _, rfl⟩
theorem gm_Desk_180 : gMk "TermDesk" 180 y_Ranking_rank := Or.inr ⟨"TermDesk", gNs_at 861 (by decide +kernel) (by decide +kernel)⟩
theorem d_Ranking_rank_0 : decode prog_8_method_4_code 0 = .ok (.aload_n 0, 1) := by decide +kernel
theorem d_Ranking_rank_1 : decode prog_8_method_4_code 1 = .ok (.aload_n 1, 1) := by decide +kernel
theorem d_Ranking_rank_2 : decode prog_8_method_4_code 2 = .ok (.invokevirtual 59, 3) := by decide +kernel
theorem d_Ranking_rank_5 : decode prog_8_method_4_code 5 = .ok (.aload_n 0, 1) := by decide +kernel
theorem d_Ranking_rank_6 : decode prog_8_method_4_code 6 = .ok (.getfield 31, 3) := by decide +kernel
theorem d_Ranking_rank_9 : decode prog_8_method_4_code 9 = .ok (.iconst 1, 1) := by decide +kernel
theorem d_Ranking_rank_10 : decode prog_8_method_4_code 10 = .ok (.invokestatic 63, 3) := by decide +kernel
theorem d_Ranking_rank_13 : decode prog_8_method_4_code 13 = .ok (.aload_n 0, 1) := by decide +kernel
theorem d_Ranking_rank_14 : decode prog_8_method_4_code 14 = .ok (.getfield 31, 3) := by decide +kernel
theorem d_Ranking_rank_17 : decode prog_8_method_4_code 17 = .ok (.aload_n 0, 1) := by decide +kernel
theorem d_Ranking_rank_18 : decode prog_8_method_4_code 18 = .ok (.getfield 46, 3) := by decide +kernel
theorem d_Ranking_rank_21 : decode prog_8_method_4_code 21 = .ok (.aload_n 0, 1) := by decide +kernel
theorem d_Ranking_rank_22 : decode prog_8_method_4_code 22 = .ok (.getfield 50, 3) := by decide +kernel
theorem d_Ranking_rank_25 : decode prog_8_method_4_code 25 = .ok (.invokestatic 67, 3) := by decide +kernel
theorem d_Ranking_rank_28 : decode prog_8_method_4_code 28 = .ok (.iconst 0, 1) := by decide +kernel
theorem d_Ranking_rank_29 : decode prog_8_method_4_code 29 = .ok (.istore_n 2, 1) := by decide +kernel
theorem d_Ranking_rank_30 : decode prog_8_method_4_code 30 = .ok (.iload_n 2, 1) := by decide +kernel
theorem d_Ranking_rank_31 : decode prog_8_method_4_code 31 = .ok (.aload_n 0, 1) := by decide +kernel
theorem d_Ranking_rank_32 : decode prog_8_method_4_code 32 = .ok (.getfield 53, 3) := by decide +kernel
theorem d_Ranking_rank_35 : decode prog_8_method_4_code 35 = .ok (.if_icmp .ge 21, 3) := by decide +kernel
theorem d_Ranking_rank_38 : decode prog_8_method_4_code 38 = .ok (.aload_n 0, 1) := by decide +kernel
theorem d_Ranking_rank_39 : decode prog_8_method_4_code 39 = .ok (.iload_n 2, 1) := by decide +kernel
theorem d_Ranking_rank_40 : decode prog_8_method_4_code 40 = .ok (.invokevirtual 71, 3) := by decide +kernel
theorem d_Ranking_rank_43 : decode prog_8_method_4_code 43 = .ok (.aload_n 0, 1) := by decide +kernel
theorem d_Ranking_rank_44 : decode prog_8_method_4_code 44 = .ok (.getfield 34, 3) := by decide +kernel
theorem d_Ranking_rank_47 : decode prog_8_method_4_code 47 = .ok (.iload_n 2, 1) := by decide +kernel
theorem d_Ranking_rank_48 : decode prog_8_method_4_code 48 = .ok (.iload_n 2, 1) := by decide +kernel
theorem d_Ranking_rank_49 : decode prog_8_method_4_code 49 = .ok (.iastore, 1) := by decide +kernel
theorem d_Ranking_rank_50 : decode prog_8_method_4_code 50 = .ok (.iinc 2 1, 3) := by decide +kernel
theorem d_Ranking_rank_53 : decode prog_8_method_4_code 53 = .ok (.goto (-23), 3) := by decide +kernel
theorem d_Ranking_rank_56 : decode prog_8_method_4_code 56 = .ok (.aload_n 0, 1) := by decide +kernel
theorem d_Ranking_rank_57 : decode prog_8_method_4_code 57 = .ok (.aload_n 0, 1) := by decide +kernel
theorem d_Ranking_rank_58 : decode prog_8_method_4_code 58 = .ok (.getfield 34, 3) := by decide +kernel
theorem d_Ranking_rank_61 : decode prog_8_method_4_code 61 = .ok (.aload_n 0, 1) := by decide +kernel
theorem d_Ranking_rank_62 : decode prog_8_method_4_code 62 = .ok (.getfield 53, 3) := by decide +kernel
theorem d_Ranking_rank_65 : decode prog_8_method_4_code 65 = .ok (.iconst 0, 1) := by decide +kernel
theorem d_Ranking_rank_66 : decode prog_8_method_4_code 66 = .ok (.invokevirtual 75, 3) := by decide +kernel
theorem d_Ranking_rank_69 : decode prog_8_method_4_code 69 = .ok (.iconst 0, 1) := by decide +kernel
theorem d_Ranking_rank_70 : decode prog_8_method_4_code 70 = .ok (.istore_n 2, 1) := by decide +kernel
theorem d_Ranking_rank_71 : decode prog_8_method_4_code 71 = .ok (.iload_n 2, 1) := by decide +kernel
theorem d_Ranking_rank_72 : decode prog_8_method_4_code 72 = .ok (.aload_n 0, 1) := by decide +kernel
theorem d_Ranking_rank_73 : decode prog_8_method_4_code 73 = .ok (.getfield 53, 3) := by decide +kernel
theorem d_Ranking_rank_76 : decode prog_8_method_4_code 76 = .ok (.if_icmp .ge 24, 3) := by decide +kernel
theorem d_Ranking_rank_79 : decode prog_8_method_4_code 79 = .ok (.aload_n 0, 1) := by decide +kernel
theorem d_Ranking_rank_80 : decode prog_8_method_4_code 80 = .ok (.iconst 1, 1) := by decide +kernel
theorem d_Ranking_rank_81 : decode prog_8_method_4_code 81 = .ok (.iload_n 2, 1) := by decide +kernel
theorem d_Ranking_rank_82 : decode prog_8_method_4_code 82 = .ok (.invokestatic 78, 3) := by decide +kernel
theorem d_Ranking_rank_85 : decode prog_8_method_4_code 85 = .ok (.iload_n 2, 1) := by decide +kernel
theorem d_Ranking_rank_86 : decode prog_8_method_4_code 86 = .ok (.aload_n 0, 1) := by decide +kernel
theorem d_Ranking_rank_87 : decode prog_8_method_4_code 87 = .ok (.getfield 53, 3) := by decide +kernel
theorem d_Ranking_rank_90 : decode prog_8_method_4_code 90 = .ok (.iconst 1, 1) := by decide +kernel
theorem d_Ranking_rank_91 : decode prog_8_method_4_code 91 = .ok (.invokevirtual 82, 3) := by decide +kernel
theorem d_Ranking_rank_94 : decode prog_8_method_4_code 94 = .ok (.iinc 2 1, 3) := by decide +kernel
theorem d_Ranking_rank_97 : decode prog_8_method_4_code 97 = .ok (.goto (-26), 3) := by decide +kernel
theorem d_Ranking_rank_100 : decode prog_8_method_4_code 100 = .ok (.aload_n 0, 1) := by decide +kernel
theorem d_Ranking_rank_101 : decode prog_8_method_4_code 101 = .ok (.invokevirtual 86, 3) := by decide +kernel
theorem d_Ranking_rank_104 : decode prog_8_method_4_code 104 = .ok (.aload_n 0, 1) := by decide +kernel
theorem d_Ranking_rank_105 : decode prog_8_method_4_code 105 = .ok (.invokevirtual 89, 3) := by decide +kernel
theorem d_Ranking_rank_108 : decode prog_8_method_4_code 108 = .ok (.return_, 1) := by decide +kernel
noncomputable def M_Ranking_rank_b30 (x2 : Int32) (u : gSt) : Option ((Int32 × gSt) ⊕ ((gSt))) :=
  if (u.1 27 12) ≤ x2 then
    (some (.inr u))
  else
    ((M_Ranking_reckonChance x2 u).bind fun q40 =>
    gc (gIn x2 (gLen 34)) <| (some (gsA q40 34 (gIx x2) x2)).bind fun u49 =>
    some (.inl (x2 + (1 : Int32), u49)))
set_option maxHeartbeats 4000000 in
set_option maxRecDepth 100000 in
theorem t_Ranking_rank_b30 (C : gX "TermDesk$Ranking" prog_8_method_4_code 3 none 5 131 R cells slots cy D ρ A p s m args meth c) {x2 : Int32} {u : gSt} {z : (Int32 × gSt) ⊕ ((gSt))} (hM : M_Ranking_rank_b30 x2 u = some z) (hN : ∀ x2' u', z = .inl (x2', u') → gAt p l e R s m args below meth c Q H0 cells slots cy D ρ A 3 30 [(0, .ref (ρ 27)), (2, .int (x2'))] [] (u')) (hE0 : ∀ u', z = .inr u' → gAt p l e R s m args below meth c Q H0 cells slots cy D ρ A 3 56 [(0, .ref (ρ 27))] [] (u')) : gAt p l e R s m args below meth c Q H0 cells slots cy D ρ A 3 30 [(0, .ref (ρ 27)), (2, .int x2)] [] u := by
  intro ls H locs hl hP hS
  have hx := C.1
  have hb := C.2.1
  unfold M_Ranking_rank_b30 at hM
  refine lv_iload_n hx hb d_Ranking_rank_30 rfl (lv_at hl 1 rfl) ?_
  refine lv_aload_n hx hb d_Ranking_rank_31 rfl (lv_at hl 0 rfl) ?_
  refine g_getI C hP gl_Ranking_53 rfl rfl d_Ranking_rank_32 ?_
  refine lv_icmp_ge (tgt := 56) hx hb d_Ranking_rank_35 (by decide) (fun hc35 => ?_) (fun hc35 => ?_)
  · replace hM := gi_t hc35 hM
    exact hE0 _ (Option.some.inj hM).symm ls H locs (lv_sub hl [0] rfl) hP hS
  · replace hM := gi_f hc35 hM
    refine lv_aload_n hx hb d_Ranking_rank_38 rfl (lv_at hl 0 rfl) ?_
    refine lv_iload_n hx hb d_Ranking_rank_39 rfl (lv_at hl 1 rfl) ?_
    obtain ⟨q40, hq40, hM⟩ := gb_some hM
    refine g_backV (g_runV (As := [.int x2]) C hP (c_Ranking_reckonChance C.2.2.2.2.2.2.2.2.1 hq40) gi_Ranking_reckonChance gm_Ranking_71 rfl rfl (by decide) (by decide) hl.1 rfl (Nat.le_of_ble_eq_true rfl) d_Ranking_rank_40) hS (fun H locs hP hS => ?_)
    refine lv_aload_n hx hb d_Ranking_rank_43 rfl (lv_at hl 0 rfl) ?_
    refine g_getR (b := 34) C hP gl_Ranking_34 rfl rfl rfl d_Ranking_rank_44 ?_
    refine lv_iload_n hx hb d_Ranking_rank_47 rfl (lv_at hl 1 rfl) ?_
    refine lv_iload_n hx hb d_Ranking_rank_48 rfl (lv_at hl 1 rfl) ?_
    obtain ⟨hi49, hM⟩ := gc_some hM
    obtain ⟨u49, e49, hM⟩ := gb_some hM
    refine g_iast C hP hS rfl hi49 d_Ranking_rank_49 (fun H locs hP hS => ?_)
    rw [Option.some.inj e49] at hP
    refine lv_iinc (k := 1) (v := x2 + (1 : Int32)) (lv' := [(2, .int (x2 + (1 : Int32))), (0, .ref (ρ 27))]) hx hb d_Ranking_rank_50 hl rfl (congrArg (fun z => x2 + z) (by decide)) (by decide) rfl (fun ls hl => ?_)
    refine lv_goto (tgt := 30) hx hb d_Ranking_rank_53 (by decide) ?_
    exact hN _ _ (Option.some.inj hM).symm ls H locs (lv_sub hl [1, 0] rfl) hP hS
noncomputable def M_Ranking_rank_L30 : (Int32 × gSt) → Option ((Int32 × gSt) ⊕ ((gSt))) := fun x => M_Ranking_rank_b30 x.1 x.2
theorem t_Ranking_rank_L30 (C : gX "TermDesk$Ranking" prog_8_method_4_code 3 none 5 131 R cells slots cy D ρ A p s m args meth c) {x2 : Int32} {u : gSt} {yy : (gSt)} (hL : gLp M_Ranking_rank_L30 (x2, u) = some yy) (hE0 : (∀ y', yy = y' → gAt p l e R s m args below meth c Q H0 cells slots cy D ρ A 3 56 [(0, .ref (ρ 27))] [] (y'))) : gAt p l e R s m args below meth c Q H0 cells slots cy D ρ A 3 30 [(0, .ref (ρ 27)), (2, .int x2)] [] u :=
  g_loop (f := M_Ranking_rank_L30) (P := fun x => gAt p l e R s m args below meth c Q H0 cells slots cy D ρ A 3 30 [(0, .ref (ρ 27)), (2, .int x.1)] [] x.2) (E := fun yy => (∀ y', yy = y' → gAt p l e R s m args below meth c Q H0 cells slots cy D ρ A 3 56 [(0, .ref (ρ 27))] [] (y'))) (fun x z hf hN hE => t_Ranking_rank_b30 C hf (fun x2' u' h => hN (x2', u') h) (fun u' h => (hE _ h) u' rfl)) hL hE0
noncomputable def M_Ranking_rank_b71 (x2 : Int32) (u : gSt) : Option ((Int32 × gSt) ⊕ ((gSt))) :=
  if (u.1 27 12) ≤ x2 then
    (some (.inr u))
  else
    ((M_Ranking_slot (1 : Int32) x2 u).bind fun q82 =>
    (M_Ranking_setCapped q82.1 x2 (q82.2.1 27 12) (1 : Int32) q82.2).bind fun q91 =>
    some (.inl (x2 + (1 : Int32), q91)))
set_option maxHeartbeats 4000000 in
set_option maxRecDepth 100000 in
theorem t_Ranking_rank_b71 (C : gX "TermDesk$Ranking" prog_8_method_4_code 3 none 5 131 R cells slots cy D ρ A p s m args meth c) {x2 : Int32} {u : gSt} {z : (Int32 × gSt) ⊕ ((gSt))} (hM : M_Ranking_rank_b71 x2 u = some z) (hN : ∀ x2' u', z = .inl (x2', u') → gAt p l e R s m args below meth c Q H0 cells slots cy D ρ A 3 71 [(0, .ref (ρ 27)), (2, .int (x2'))] [] (u')) (hE0 : ∀ u', z = .inr u' → gAt p l e R s m args below meth c Q H0 cells slots cy D ρ A 3 100 [(0, .ref (ρ 27))] [] (u')) : gAt p l e R s m args below meth c Q H0 cells slots cy D ρ A 3 71 [(0, .ref (ρ 27)), (2, .int x2)] [] u := by
  intro ls H locs hl hP hS
  have hx := C.1
  have hb := C.2.1
  unfold M_Ranking_rank_b71 at hM
  refine lv_iload_n hx hb d_Ranking_rank_71 rfl (lv_at hl 1 rfl) ?_
  refine lv_aload_n hx hb d_Ranking_rank_72 rfl (lv_at hl 0 rfl) ?_
  refine g_getI C hP gl_Ranking_53 rfl rfl d_Ranking_rank_73 ?_
  refine lv_icmp_ge (tgt := 100) hx hb d_Ranking_rank_76 (by decide) (fun hc76 => ?_) (fun hc76 => ?_)
  · replace hM := gi_t hc76 hM
    exact hE0 _ (Option.some.inj hM).symm ls H locs (lv_sub hl [0] rfl) hP hS
  · replace hM := gi_f hc76 hM
    refine lv_aload_n hx hb d_Ranking_rank_79 rfl (lv_at hl 0 rfl) ?_
    refine lv_iconst (v := (1 : Int32)) hx hb d_Ranking_rank_80 (by decide) ?_
    refine lv_iload_n hx hb d_Ranking_rank_81 rfl (lv_at hl 1 rfl) ?_
    obtain ⟨q82, hq82, hM⟩ := gb_some hM
    refine g_backI (g_runS (As := [.int (1 : Int32), .int x2]) C hP (c_Ranking_slot C.2.2.2.2.2.2.2.2.1 hq82) gi_Ranking_slot gm_Ranking_78 rfl (by decide) (by decide) hl.1 rfl (Nat.le_of_ble_eq_true rfl) d_Ranking_rank_82) hS (fun H locs hP hS => ?_)
    refine lv_iload_n hx hb d_Ranking_rank_85 rfl (lv_at hl 1 rfl) ?_
    refine lv_aload_n hx hb d_Ranking_rank_86 rfl (lv_at hl 0 rfl) ?_
    refine g_getI C hP gl_Ranking_53 rfl rfl d_Ranking_rank_87 ?_
    refine lv_iconst (v := (1 : Int32)) hx hb d_Ranking_rank_90 (by decide) ?_
    obtain ⟨q91, hq91, hM⟩ := gb_some hM
    refine g_backV (g_runV (As := [.int q82.1, .int x2, .int (q82.2.1 27 12), .int (1 : Int32)]) C hP (c_Ranking_setCapped C.2.2.2.2.2.2.2.2.1 hq91) gi_Ranking_setCapped gm_Ranking_82 rfl rfl (by decide) (by decide) hl.1 rfl (Nat.le_of_ble_eq_true rfl) d_Ranking_rank_91) hS (fun H locs hP hS => ?_)
    refine lv_iinc (k := 1) (v := x2 + (1 : Int32)) (lv' := [(2, .int (x2 + (1 : Int32))), (0, .ref (ρ 27))]) hx hb d_Ranking_rank_94 hl rfl (congrArg (fun z => x2 + z) (by decide)) (by decide) rfl (fun ls hl => ?_)
    refine lv_goto (tgt := 71) hx hb d_Ranking_rank_97 (by decide) ?_
    exact hN _ _ (Option.some.inj hM).symm ls H locs (lv_sub hl [1, 0] rfl) hP hS
noncomputable def M_Ranking_rank_L71 : (Int32 × gSt) → Option ((Int32 × gSt) ⊕ ((gSt))) := fun x => M_Ranking_rank_b71 x.1 x.2
theorem t_Ranking_rank_L71 (C : gX "TermDesk$Ranking" prog_8_method_4_code 3 none 5 131 R cells slots cy D ρ A p s m args meth c) {x2 : Int32} {u : gSt} {yy : (gSt)} (hL : gLp M_Ranking_rank_L71 (x2, u) = some yy) (hE0 : (∀ y', yy = y' → gAt p l e R s m args below meth c Q H0 cells slots cy D ρ A 3 100 [(0, .ref (ρ 27))] [] (y'))) : gAt p l e R s m args below meth c Q H0 cells slots cy D ρ A 3 71 [(0, .ref (ρ 27)), (2, .int x2)] [] u :=
  g_loop (f := M_Ranking_rank_L71) (P := fun x => gAt p l e R s m args below meth c Q H0 cells slots cy D ρ A 3 71 [(0, .ref (ρ 27)), (2, .int x.1)] [] x.2) (E := fun yy => (∀ y', yy = y' → gAt p l e R s m args below meth c Q H0 cells slots cy D ρ A 3 100 [(0, .ref (ρ 27))] [] (y'))) (fun x z hf hN hE => t_Ranking_rank_b71 C hf (fun x2' u' h => hN (x2', u') h) (fun u' h => (hE _ h) u' rfl)) hL hE0
noncomputable def M_Ranking_rank (u : gSt) : Option (gSt) :=
  (M_Ranking_takeCandidates u).bind fun q2 =>
  (M_Wide_set 33 (1 : Int32) q2).bind fun q10 =>
  (M_Wide_multiplyByChoices 33 (q10.1 27 10) (q10.1 27 11) q10).bind fun q25 =>
  (gLp M_Ranking_rank_L30 ((0 : Int32), q25)).bind fun y30 =>
  (M_Ranking_sort 34 (y30.1 27 12) (0 : Int32) y30).bind fun q66 =>
  (gLp M_Ranking_rank_L71 ((0 : Int32), q66)).bind fun y71 =>
  (M_Ranking_stepDown y71).bind fun q101 =>
  (M_Ranking_stepUp q101).bind fun q105 =>
  some q105
set_option maxHeartbeats 4000000 in
set_option maxRecDepth 100000 in
theorem t_Ranking_rank (C : gX "TermDesk$Ranking" prog_8_method_4_code 3 none 5 131 R cells slots cy D ρ A p s m args meth c) {u : gSt} {z : gSt} (hM : M_Ranking_rank u = some z) (hR : gRtV p l e R s m args below meth c Q H0 cells slots cy D ρ A prog_8_method_4_code z) : gAt p l e R s m args below meth c Q H0 cells slots cy D ρ A 3 0 [(0, .ref (ρ 27)), (1, .ref (ρ 4))] [] u := by
  intro ls H locs hl hP hS
  have hx := C.1
  have hb := C.2.1
  unfold M_Ranking_rank at hM
  refine lv_aload_n hx hb d_Ranking_rank_0 rfl (lv_at hl 0 rfl) ?_
  refine lv_aload_n hx hb d_Ranking_rank_1 rfl (lv_at hl 1 rfl) ?_
  obtain ⟨q2, hq2, hM⟩ := gb_some hM
  refine g_backV (g_runV (As := [.ref (ρ 4)]) C hP (c_Ranking_takeCandidates C.2.2.2.2.2.2.2.2.1 hq2) gi_Ranking_takeCandidates gm_Ranking_59 rfl rfl (by decide) (by decide) hl.1 rfl (Nat.le_of_ble_eq_true rfl) d_Ranking_rank_2) hS (fun H locs hP hS => ?_)
  refine lv_aload_n hx hb d_Ranking_rank_5 rfl (lv_at hl 0 rfl) ?_
  refine g_getR (b := 33) C hP gl_Ranking_31 rfl rfl rfl d_Ranking_rank_6 ?_
  refine lv_iconst (v := (1 : Int32)) hx hb d_Ranking_rank_9 (by decide) ?_
  obtain ⟨q10, hq10, hM⟩ := gb_some hM
  refine g_backV (g_runS (As := [.ref (ρ 33), .int (1 : Int32)]) C hP (c_Wide_set C.2.2.2.2.2.2.2.2.1 hq10) gi_Wide_set gm_Ranking_63 rfl (by decide) (by decide) hl.1 rfl (Nat.le_of_ble_eq_true rfl) d_Ranking_rank_10) hS (fun H locs hP hS => ?_)
  refine lv_aload_n hx hb d_Ranking_rank_13 rfl (lv_at hl 0 rfl) ?_
  refine g_getR (b := 33) C hP gl_Ranking_31 rfl rfl rfl d_Ranking_rank_14 ?_
  refine lv_aload_n hx hb d_Ranking_rank_17 rfl (lv_at hl 0 rfl) ?_
  refine g_getI C hP gl_Ranking_46 rfl rfl d_Ranking_rank_18 ?_
  refine lv_aload_n hx hb d_Ranking_rank_21 rfl (lv_at hl 0 rfl) ?_
  refine g_getI C hP gl_Ranking_50 rfl rfl d_Ranking_rank_22 ?_
  obtain ⟨q25, hq25, hM⟩ := gb_some hM
  refine g_backV (g_runS (As := [.ref (ρ 33), .int (q10.1 27 10), .int (q10.1 27 11)]) C hP (c_Wide_multiplyByChoices C.2.2.2.2.2.2.2.2.1 hq25) gi_Wide_multiplyByChoices gm_Ranking_67 rfl (by decide) (by decide) hl.1 rfl (Nat.le_of_ble_eq_true rfl) d_Ranking_rank_25) hS (fun H locs hP hS => ?_)
  refine lv_iconst (v := (0 : Int32)) hx hb d_Ranking_rank_28 (by decide) ?_
  refine lv_istore_n (lv' := [(2, .int (0 : Int32)), (0, .ref (ρ 27)), (1, .ref (ρ 4))]) hx hb d_Ranking_rank_29 rfl hl (by decide) rfl (fun ls hl => ?_)
  obtain ⟨y30, hL30, hM⟩ := gb_some hM
  refine t_Ranking_rank_L30 C hL30 (fun y30_0 hy => ?_) ls H locs (lv_sub hl [1, 0] rfl) hP hS
  · subst hy
    intro ls H locs hl hP hS
    refine lv_aload_n hx hb d_Ranking_rank_56 rfl (lv_at hl 0 rfl) ?_
    refine lv_aload_n hx hb d_Ranking_rank_57 rfl (lv_at hl 0 rfl) ?_
    refine g_getR (b := 34) C hP gl_Ranking_34 rfl rfl rfl d_Ranking_rank_58 ?_
    refine lv_aload_n hx hb d_Ranking_rank_61 rfl (lv_at hl 0 rfl) ?_
    refine g_getI C hP gl_Ranking_53 rfl rfl d_Ranking_rank_62 ?_
    refine lv_iconst (v := (0 : Int32)) hx hb d_Ranking_rank_65 (by decide) ?_
    obtain ⟨q66, hq66, hM⟩ := gb_some hM
    refine g_backV (g_runV (As := [.ref (ρ 34), .int (y30.1 27 12), .int (0 : Int32)]) C hP (c_Ranking_sort C.2.2.2.2.2.2.2.2.1 hq66) gi_Ranking_sort gm_Ranking_75 rfl rfl (by decide) (by decide) hl.1 rfl (Nat.le_of_ble_eq_true rfl) d_Ranking_rank_66) hS (fun H locs hP hS => ?_)
    refine lv_iconst (v := (0 : Int32)) hx hb d_Ranking_rank_69 (by decide) ?_
    refine lv_istore_n (lv' := [(2, .int (0 : Int32)), (0, .ref (ρ 27))]) hx hb d_Ranking_rank_70 rfl hl (by decide) rfl (fun ls hl => ?_)
    obtain ⟨y71, hL71, hM⟩ := gb_some hM
    refine t_Ranking_rank_L71 C hL71 (fun y71_0 hy => ?_) ls H locs (lv_sub hl [1, 0] rfl) hP hS
    · subst hy
      intro ls H locs hl hP hS
      refine lv_aload_n hx hb d_Ranking_rank_100 rfl (lv_at hl 0 rfl) ?_
      obtain ⟨q101, hq101, hM⟩ := gb_some hM
      refine g_backV (g_runV (As := []) C hP (c_Ranking_stepDown C.2.2.2.2.2.2.2.2.1 hq101) gi_Ranking_stepDown gm_Ranking_86 rfl rfl (by decide) (by decide) hl.1 rfl (Nat.le_of_ble_eq_true rfl) d_Ranking_rank_101) hS (fun H locs hP hS => ?_)
      refine lv_aload_n hx hb d_Ranking_rank_104 rfl (lv_at hl 0 rfl) ?_
      obtain ⟨q105, hq105, hM⟩ := gb_some hM
      refine g_backV (g_runV (As := []) C hP (c_Ranking_stepUp C.2.2.2.2.2.2.2.2.1 hq105) gi_Ranking_stepUp gm_Ranking_89 rfl rfl (by decide) (by decide) hl.1 rfl (Nat.le_of_ble_eq_true rfl) d_Ranking_rank_105) hS (fun H locs hP hS => ?_)
      obtain rfl := Option.some.inj hM
      exact hR _ ls H locs d_Ranking_rank_108 hP hS
theorem c_Ranking_rank {l : Launch} {cy : Nat → ClassId} {D : va_G} {ρ : Nat → Nat} {A : Nat → Prop} (hD : gD ρ A) {u : gSt} {z : gSt} (hM : M_Ranking_rank u = some z) : gCtV l y_Ranking_rank prog_8_method_4_code 3 none 5 131 cy D ρ A [.ref (ρ 27), .ref (ρ 4)] u z :=
  g_met (by decide) hD (Nat.le_of_ble_eq_true rfl) (fun p e s m below meth c ls X hl hP => t_Ranking_rank X hM (fun pc ls H locs hd hP hS => g_vret X hP hS hd) ls _ [] hl hP va_S.rf)
end
section
variable {p : Program} {l : Launch} {e : Env} {R : Room} {s : State} {m : MethodId} {args : Array Value} {below : List Frame} {meth : Method} {c : Code} {Q : State → Prop} {H0 : Heap} {cells slots : Nat} {cy : Nat → ClassId} {D : va_G} {ρ : Nat → Nat} {A : Nat → Prop}
def y_Ranking_hasRow : MethodName := ⟨"TermDesk$Ranking", "hasRow", "(I)Z"⟩
theorem gi_Ranking_hasRow : gMi y_Ranking_hasRow prog_8_method_3_code 2 (some .boolean) 1 6 := ⟨(gWs_at 961 (by decide +kernel) (by decide +kernel)), (gWs_at 960 (by decide +kernel) (by decide +kernel)), (gWs_at 57 (by decide +kernel) (by decide +kernel)), (gWs_at 123 (by decide +kernel) (by decide +kernel)), ⟨by decide +kernel, by decide +kernel, by decide +kernel⟩, _, _, rfl⟩
theorem gm_Desk_188 : gMk "TermDesk" 188 y_Ranking_hasRow := Or.inr ⟨"TermDesk", gNs_at 958 (by decide +kernel) (by decide +kernel)⟩
theorem d_Ranking_hasRow_0 : decode prog_8_method_3_code 0 = .ok (.iload_n 1, 1) := by decide +kernel
theorem d_Ranking_hasRow_1 : decode prog_8_method_3_code 1 = .ok (.ifCond .lt 15, 3) := by decide +kernel
theorem d_Ranking_hasRow_4 : decode prog_8_method_3_code 4 = .ok (.iload_n 1, 1) := by decide +kernel
theorem d_Ranking_hasRow_5 : decode prog_8_method_3_code 5 = .ok (.aload_n 0, 1) := by decide +kernel
theorem d_Ranking_hasRow_6 : decode prog_8_method_3_code 6 = .ok (.getfield 56, 3) := by decide +kernel
theorem d_Ranking_hasRow_9 : decode prog_8_method_3_code 9 = .ok (.if_icmp .ge 7, 3) := by decide +kernel
theorem d_Ranking_hasRow_12 : decode prog_8_method_3_code 12 = .ok (.iconst 1, 1) := by decide +kernel
theorem d_Ranking_hasRow_13 : decode prog_8_method_3_code 13 = .ok (.goto 4, 3) := by decide +kernel
theorem d_Ranking_hasRow_16 : decode prog_8_method_3_code 16 = .ok (.iconst 0, 1) := by decide +kernel
theorem d_Ranking_hasRow_17 : decode prog_8_method_3_code 17 = .ok (.ireturn, 1) := by decide +kernel
noncomputable def M_Ranking_hasRow_b17 (s0 : Int32) (u : gSt) : Option ((Int32 × gSt)) :=
  gc (gZ s0) <| some (s0, u)
set_option maxHeartbeats 4000000 in
set_option maxRecDepth 100000 in
theorem t_Ranking_hasRow_b17 (C : gX "TermDesk$Ranking" prog_8_method_3_code 2 (some .boolean) 0 0 R cells slots cy D ρ A p s m args meth c) {s0 : Int32} {u : gSt} {z : (Int32 × gSt)} (hM : M_Ranking_hasRow_b17 s0 u = some z) (hR : gRtZ p l e R s m args below meth c Q H0 cells slots cy D ρ A prog_8_method_3_code z.1 z.2) : gAt p l e R s m args below meth c Q H0 cells slots cy D ρ A 2 17 [] [.int s0] u := by
  intro ls H locs hl hP hS
  have hx := C.1
  have hb := C.2.1
  unfold M_Ranking_hasRow_b17 at hM
  obtain ⟨hz17, hM⟩ := gc_some hM
  obtain rfl := Option.some.inj hM
  exact hR _ ls H locs hz17 d_Ranking_hasRow_17 hP hS
noncomputable def M_Ranking_hasRow_b16 (u : gSt) : Option ((Int32 × gSt)) :=
  M_Ranking_hasRow_b17 (0 : Int32) u
set_option maxHeartbeats 4000000 in
set_option maxRecDepth 100000 in
theorem t_Ranking_hasRow_b16 (C : gX "TermDesk$Ranking" prog_8_method_3_code 2 (some .boolean) 0 0 R cells slots cy D ρ A p s m args meth c) {u : gSt} {z : (Int32 × gSt)} (hM : M_Ranking_hasRow_b16 u = some z) (hR : gRtZ p l e R s m args below meth c Q H0 cells slots cy D ρ A prog_8_method_3_code z.1 z.2) : gAt p l e R s m args below meth c Q H0 cells slots cy D ρ A 2 16 [] [] u := by
  intro ls H locs hl hP hS
  have hx := C.1
  have hb := C.2.1
  unfold M_Ranking_hasRow_b16 at hM
  refine lv_iconst (v := (0 : Int32)) hx hb d_Ranking_hasRow_16 (by decide) ?_
  exact t_Ranking_hasRow_b17 C hM hR ls H locs (lv_sub hl [] rfl) hP hS
noncomputable def M_Ranking_hasRow (x1 : Int32) (u : gSt) : Option ((Int32 × gSt)) :=
  if x1 < (0 : Int32) then
    (M_Ranking_hasRow_b16 u)
  else
    (if (u.1 27 13) ≤ x1 then
      (M_Ranking_hasRow_b16 u)
    else
      (M_Ranking_hasRow_b17 (1 : Int32) u))
set_option maxHeartbeats 4000000 in
set_option maxRecDepth 100000 in
theorem t_Ranking_hasRow (C : gX "TermDesk$Ranking" prog_8_method_3_code 2 (some .boolean) 0 0 R cells slots cy D ρ A p s m args meth c) {x1 : Int32} {u : gSt} {z : (Int32 × gSt)} (hM : M_Ranking_hasRow x1 u = some z) (hR : gRtZ p l e R s m args below meth c Q H0 cells slots cy D ρ A prog_8_method_3_code z.1 z.2) : gAt p l e R s m args below meth c Q H0 cells slots cy D ρ A 2 0 [(0, .ref (ρ 27)), (1, .int x1)] [] u := by
  intro ls H locs hl hP hS
  have hx := C.1
  have hb := C.2.1
  unfold M_Ranking_hasRow at hM
  refine lv_iload_n hx hb d_Ranking_hasRow_0 rfl (lv_at hl 1 rfl) ?_
  refine lv_if_lt (tgt := 16) hx hb d_Ranking_hasRow_1 (by decide) (fun hc1 => ?_) (fun hc1 => ?_)
  · replace hM := gi_t hc1 hM
    exact t_Ranking_hasRow_b16 C hM hR ls H locs (lv_sub hl [] rfl) hP hS
  · replace hM := gi_f hc1 hM
    refine lv_iload_n hx hb d_Ranking_hasRow_4 rfl (lv_at hl 1 rfl) ?_
    refine lv_aload_n hx hb d_Ranking_hasRow_5 rfl (lv_at hl 0 rfl) ?_
    refine g_getI C hP gl_Ranking_56 rfl rfl d_Ranking_hasRow_6 ?_
    refine lv_icmp_ge (tgt := 16) hx hb d_Ranking_hasRow_9 (by decide) (fun hc9 => ?_) (fun hc9 => ?_)
    · replace hM := gi_t hc9 hM
      exact t_Ranking_hasRow_b16 C hM hR ls H locs (lv_sub hl [] rfl) hP hS
    · replace hM := gi_f hc9 hM
      refine lv_iconst (v := (1 : Int32)) hx hb d_Ranking_hasRow_12 (by decide) ?_
      refine lv_goto (tgt := 17) hx hb d_Ranking_hasRow_13 (by decide) ?_
      exact t_Ranking_hasRow_b17 C hM hR ls H locs (lv_sub hl [] rfl) hP hS
theorem c_Ranking_hasRow {l : Launch} {cy : Nat → ClassId} {D : va_G} {ρ : Nat → Nat} {A : Nat → Prop} (hD : gD ρ A) {x1 : Int32} {u : gSt} {z : (Int32 × gSt)} (hM : M_Ranking_hasRow x1 u = some z) : gCtI l y_Ranking_hasRow prog_8_method_3_code 2 (some .boolean) 0 0 cy D ρ A [.ref (ρ 27), .int x1] u z.1 z.2 :=
  g_met (by decide) hD (Nat.le_of_ble_eq_true rfl) (fun p e s m below meth c ls X hl hP => t_Ranking_hasRow X hM (fun pc ls H locs hz hd hP hS => g_zret X hP hS hz hd) ls _ [] hl hP va_S.rf)
end
section
variable {p : Program} {l : Launch} {e : Env} {R : Room} {s : State} {m : MethodId} {args : Array Value} {below : List Frame} {meth : Method} {c : Code} {Q : State → Prop} {H0 : Heap} {cells slots : Nat} {cy : Nat → ClassId} {D : va_G} {ρ : Nat → Nat} {A : Nat → Prop}
def y_Strip_take : MethodName := ⟨"TermDesk$Strip", "take", "([I[II)V"⟩
theorem gi_Strip_take : gMi y_Strip_take prog_9_method_2_code 4 none 3 7 := ⟨(gWs_at 976 (by decide +kernel) (by decide +kernel)), (gWs_at 975 (by decide +kernel) (by decide +kernel)), (gWs_at 58 (by decide +kernel) (by decide +kernel)), (gWs_at 124 (by decide +kernel) (by decide +kernel)), ⟨by decide +kernel, by decide +kernel, by decide +kernel⟩, _, _, rfl⟩
theorem gm_Desk_227 : gMk "TermDesk" 227 y_Strip_take := Or.inr ⟨"TermDesk", gNs_at 973 (by decide +kernel) (by decide +kernel)⟩
theorem d_Strip_take_0 : decode prog_9_method_2_code 0 = .ok (.aload_n 1, 1) := by decide +kernel
theorem d_Strip_take_1 : decode prog_9_method_2_code 1 = .ok (.aload_n 0, 1) := by decide +kernel
theorem d_Strip_take_2 : decode prog_9_method_2_code 2 = .ok (.getfield 17, 3) := by decide +kernel
theorem d_Strip_take_5 : decode prog_9_method_2_code 5 = .ok (.invokestatic 28, 3) := by decide +kernel
theorem d_Strip_take_8 : decode prog_9_method_2_code 8 = .ok (.aload_n 2, 1) := by decide +kernel
theorem d_Strip_take_9 : decode prog_9_method_2_code 9 = .ok (.aload_n 0, 1) := by decide +kernel
theorem d_Strip_take_10 : decode prog_9_method_2_code 10 = .ok (.getfield 21, 3) := by decide +kernel
theorem d_Strip_take_13 : decode prog_9_method_2_code 13 = .ok (.invokestatic 28, 3) := by decide +kernel
theorem d_Strip_take_16 : decode prog_9_method_2_code 16 = .ok (.aload_n 0, 1) := by decide +kernel
theorem d_Strip_take_17 : decode prog_9_method_2_code 17 = .ok (.getfield 21, 3) := by decide +kernel
theorem d_Strip_take_20 : decode prog_9_method_2_code 20 = .ok (.iload_n 3, 1) := by decide +kernel
theorem d_Strip_take_21 : decode prog_9_method_2_code 21 = .ok (.invokestatic 32, 3) := by decide +kernel
theorem d_Strip_take_24 : decode prog_9_method_2_code 24 = .ok (.aload_n 0, 1) := by decide +kernel
theorem d_Strip_take_25 : decode prog_9_method_2_code 25 = .ok (.iconst 0, 1) := by decide +kernel
theorem d_Strip_take_26 : decode prog_9_method_2_code 26 = .ok (.putfield 24, 3) := by decide +kernel
theorem d_Strip_take_29 : decode prog_9_method_2_code 29 = .ok (.return_, 1) := by decide +kernel
noncomputable def M_Strip_take (a1 : Nat) (a2 : Nat) (x3 : Int32) (u : gSt) : Option (gSt) :=
  (M_Wide_copy a1 40 u).bind fun q5 =>
  (M_Wide_copy a2 41 q5).bind fun q13 =>
  (M_Wide_multiply 41 x3 q13).bind fun q21 =>
  (some (gsF q21 38 3 (0 : Int32))).bind fun u26 =>
  some u26
set_option maxHeartbeats 4000000 in
set_option maxRecDepth 100000 in
theorem t_Strip_take (C : gX "TermDesk$Strip" prog_9_method_2_code 4 none 2 81 R cells slots cy D ρ A p s m args meth c) {a1 : Nat} {a2 : Nat} {x3 : Int32} {u : gSt} {z : gSt} (hM : M_Strip_take a1 a2 x3 u = some z) (hR : gRtV p l e R s m args below meth c Q H0 cells slots cy D ρ A prog_9_method_2_code z) : gAt p l e R s m args below meth c Q H0 cells slots cy D ρ A 4 0 [(0, .ref (ρ 38)), (1, .ref (ρ a1)), (2, .ref (ρ a2)), (3, .int x3)] [] u := by
  intro ls H locs hl hP hS
  have hx := C.1
  have hb := C.2.1
  unfold M_Strip_take at hM
  refine lv_aload_n hx hb d_Strip_take_0 rfl (lv_at hl 1 rfl) ?_
  refine lv_aload_n hx hb d_Strip_take_1 rfl (lv_at hl 0 rfl) ?_
  refine g_getR (b := 40) C hP gl_Strip_17 rfl rfl rfl d_Strip_take_2 ?_
  obtain ⟨q5, hq5, hM⟩ := gb_some hM
  refine g_backV (g_runS (As := [.ref (ρ a1), .ref (ρ 40)]) C hP (c_Wide_copy C.2.2.2.2.2.2.2.2.1 hq5) gi_Wide_copy gm_Strip_28 rfl (by decide) (by decide) hl.1 rfl (Nat.le_of_ble_eq_true rfl) d_Strip_take_5) hS (fun H locs hP hS => ?_)
  refine lv_aload_n hx hb d_Strip_take_8 rfl (lv_at hl 2 rfl) ?_
  refine lv_aload_n hx hb d_Strip_take_9 rfl (lv_at hl 0 rfl) ?_
  refine g_getR (b := 41) C hP gl_Strip_21 rfl rfl rfl d_Strip_take_10 ?_
  obtain ⟨q13, hq13, hM⟩ := gb_some hM
  refine g_backV (g_runS (As := [.ref (ρ a2), .ref (ρ 41)]) C hP (c_Wide_copy C.2.2.2.2.2.2.2.2.1 hq13) gi_Wide_copy gm_Strip_28 rfl (by decide) (by decide) hl.1 rfl (Nat.le_of_ble_eq_true rfl) d_Strip_take_13) hS (fun H locs hP hS => ?_)
  refine lv_aload_n hx hb d_Strip_take_16 rfl (lv_at hl 0 rfl) ?_
  refine g_getR (b := 41) C hP gl_Strip_21 rfl rfl rfl d_Strip_take_17 ?_
  refine lv_iload_n hx hb d_Strip_take_20 rfl (lv_at hl 3 rfl) ?_
  obtain ⟨q21, hq21, hM⟩ := gb_some hM
  refine g_backV (g_runS (As := [.ref (ρ 41), .int x3]) C hP (c_Wide_multiply C.2.2.2.2.2.2.2.2.1 hq21) gi_Wide_multiply gm_Strip_32 rfl (by decide) (by decide) hl.1 rfl (Nat.le_of_ble_eq_true rfl) d_Strip_take_21) hS (fun H locs hP hS => ?_)
  refine lv_aload_n hx hb d_Strip_take_24 rfl (lv_at hl 0 rfl) ?_
  refine lv_iconst (v := (0 : Int32)) hx hb d_Strip_take_25 (by decide) ?_
  obtain ⟨u26, e26, hM⟩ := gb_some hM
  refine g_putI C hP hS gl_Strip_24 rfl rfl gq_7_3 d_Strip_take_26 (fun H locs hP hS => ?_)
  rw [Option.some.inj e26] at hP
  obtain rfl := Option.some.inj hM
  exact hR _ ls H locs d_Strip_take_29 hP hS
theorem c_Strip_take {l : Launch} {cy : Nat → ClassId} {D : va_G} {ρ : Nat → Nat} {A : Nat → Prop} (hD : gD ρ A) {a1 : Nat} {a2 : Nat} {x3 : Int32} {u : gSt} {z : gSt} (hM : M_Strip_take a1 a2 x3 u = some z) : gCtV l y_Strip_take prog_9_method_2_code 4 none 2 81 cy D ρ A [.ref (ρ 38), .ref (ρ a1), .ref (ρ a2), .int x3] u z :=
  g_met (by decide) hD (Nat.le_of_ble_eq_true rfl) (fun p e s m below meth c ls X hl hP => t_Strip_take X hM (fun pc ls H locs hd hP hS => g_vret X hP hS hd) ls _ [] hl hP va_S.rf)
end
section
variable {p : Program} {l : Launch} {e : Env} {R : Room} {s : State} {m : MethodId} {args : Array Value} {below : List Frame} {meth : Method} {c : Code} {Q : State → Prop} {H0 : Heap} {cells slots : Nat} {cy : Nat → ClassId} {D : va_G} {ρ : Nat → Nat} {A : Nat → Prop}
def y_Strip_write : MethodName := ⟨"TermDesk$Strip", "write", "(I)V"⟩
theorem gi_Strip_write : gMi y_Strip_write prog_9_method_3_code 2 none 1 7 := ⟨(gWs_at 999 (by decide +kernel) (by decide +kernel)), (gWs_at 998 (by decide +kernel) (by decide +kernel)), (gWs_at 62 (by decide +kernel) (by decide +kernel)), (gWs_at 124 (by decide +kernel) (by decide +kernel)), ⟨by decide +kernel, by decide +kernel, by decide +kernel⟩, _, _, rfl⟩
theorem gm_Strip_43 : gMk "TermDesk$Strip" 43 y_Strip_write := Or.inl (gWs_at 996 (by decide +kernel) (by decide +kernel))
theorem d_Strip_write_0 : decode prog_9_method_3_code 0 = .ok (.aload_n 0, 1) := by decide +kernel
theorem d_Strip_write_1 : decode prog_9_method_3_code 1 = .ok (.getfield 24, 3) := by decide +kernel
theorem d_Strip_write_4 : decode prog_9_method_3_code 4 = .ok (.sipush 160, 3) := by decide +kernel
theorem d_Strip_write_7 : decode prog_9_method_3_code 7 = .ok (.if_icmp .ge 24, 3) := by decide +kernel
theorem d_Strip_write_10 : decode prog_9_method_3_code 10 = .ok (.aload_n 0, 1) := by decide +kernel
theorem d_Strip_write_11 : decode prog_9_method_3_code 11 = .ok (.getfield 9, 3) := by decide +kernel
theorem d_Strip_write_14 : decode prog_9_method_3_code 14 = .ok (.aload_n 0, 1) := by decide +kernel
theorem d_Strip_write_15 : decode prog_9_method_3_code 15 = .ok (.getfield 24, 3) := by decide +kernel
theorem d_Strip_write_18 : decode prog_9_method_3_code 18 = .ok (.iload_n 1, 1) := by decide +kernel
theorem d_Strip_write_19 : decode prog_9_method_3_code 19 = .ok (.i2c, 1) := by decide +kernel
theorem d_Strip_write_20 : decode prog_9_method_3_code 20 = .ok (.castore, 1) := by decide +kernel
theorem d_Strip_write_21 : decode prog_9_method_3_code 21 = .ok (.aload_n 0, 1) := by decide +kernel
theorem d_Strip_write_22 : decode prog_9_method_3_code 22 = .ok (.dup, 1) := by decide +kernel
theorem d_Strip_write_23 : decode prog_9_method_3_code 23 = .ok (.getfield 24, 3) := by decide +kernel
theorem d_Strip_write_26 : decode prog_9_method_3_code 26 = .ok (.iconst 1, 1) := by decide +kernel
theorem d_Strip_write_27 : decode prog_9_method_3_code 27 = .ok (.iadd, 1) := by decide +kernel
theorem d_Strip_write_28 : decode prog_9_method_3_code 28 = .ok (.putfield 24, 3) := by decide +kernel
theorem d_Strip_write_31 : decode prog_9_method_3_code 31 = .ok (.return_, 1) := by decide +kernel
noncomputable def M_Strip_write_b31 (u : gSt) : Option (gSt) :=
  some u
set_option maxHeartbeats 4000000 in
set_option maxRecDepth 100000 in
theorem t_Strip_write_b31 (C : gX "TermDesk$Strip" prog_9_method_3_code 2 none 0 0 R cells slots cy D ρ A p s m args meth c) {u : gSt} {z : gSt} (hM : M_Strip_write_b31 u = some z) (hR : gRtV p l e R s m args below meth c Q H0 cells slots cy D ρ A prog_9_method_3_code z) : gAt p l e R s m args below meth c Q H0 cells slots cy D ρ A 2 31 [] [] u := by
  intro ls H locs hl hP hS
  have hx := C.1
  have hb := C.2.1
  unfold M_Strip_write_b31 at hM
  obtain rfl := Option.some.inj hM
  exact hR _ ls H locs d_Strip_write_31 hP hS
noncomputable def M_Strip_write (x1 : Int32) (u : gSt) : Option (gSt) :=
  if (160 : Int32) ≤ (u.1 38 3) then
    (M_Strip_write_b31 u)
  else
    (gc (gIn (u.1 38 3) (gLen 39)) <| (some (gsA u 39 (gIx (u.1 38 3)) (((x1.toUInt32 % 65536).toInt32).toUInt32.toUInt16.toUInt32.toInt32))).bind fun u20 =>
    (some (gsF u20 38 3 ((u20.1 38 3) + (1 : Int32)))).bind fun u28 =>
    M_Strip_write_b31 u28)
set_option maxHeartbeats 4000000 in
set_option maxRecDepth 100000 in
theorem t_Strip_write (C : gX "TermDesk$Strip" prog_9_method_3_code 2 none 0 0 R cells slots cy D ρ A p s m args meth c) {x1 : Int32} {u : gSt} {z : gSt} (hM : M_Strip_write x1 u = some z) (hR : gRtV p l e R s m args below meth c Q H0 cells slots cy D ρ A prog_9_method_3_code z) : gAt p l e R s m args below meth c Q H0 cells slots cy D ρ A 2 0 [(0, .ref (ρ 38)), (1, .int x1)] [] u := by
  intro ls H locs hl hP hS
  have hx := C.1
  have hb := C.2.1
  unfold M_Strip_write at hM
  refine lv_aload_n hx hb d_Strip_write_0 rfl (lv_at hl 0 rfl) ?_
  refine g_getI C hP gl_Strip_24 rfl rfl d_Strip_write_1 ?_
  refine lv_sipush (v := (160 : Int32)) hx hb d_Strip_write_4 (by decide) ?_
  refine lv_icmp_ge (tgt := 31) hx hb d_Strip_write_7 (by decide) (fun hc7 => ?_) (fun hc7 => ?_)
  · replace hM := gi_t hc7 hM
    exact t_Strip_write_b31 C hM hR ls H locs (lv_sub hl [] rfl) hP hS
  · replace hM := gi_f hc7 hM
    refine lv_aload_n hx hb d_Strip_write_10 rfl (lv_at hl 0 rfl) ?_
    refine g_getR (b := 39) C hP gl_Strip_9 rfl rfl rfl d_Strip_write_11 ?_
    refine lv_aload_n hx hb d_Strip_write_14 rfl (lv_at hl 0 rfl) ?_
    refine g_getI C hP gl_Strip_24 rfl rfl d_Strip_write_15 ?_
    refine lv_iload_n hx hb d_Strip_write_18 rfl (lv_at hl 1 rfl) ?_
    refine lv_i2c (v := (x1.toUInt32 % 65536).toInt32) hx hb d_Strip_write_19 rfl ?_
    obtain ⟨hi20, hM⟩ := gc_some hM
    obtain ⟨u20, e20, hM⟩ := gb_some hM
    refine g_cast C hP hS rfl hi20 d_Strip_write_20 (fun H locs hP hS => ?_)
    rw [Option.some.inj e20] at hP
    refine lv_aload_n hx hb d_Strip_write_21 rfl (lv_at hl 0 rfl) ?_
    refine lv_dup hx hb d_Strip_write_22 rfl ?_
    refine g_getI C hP gl_Strip_24 rfl rfl d_Strip_write_23 ?_
    refine lv_iconst (v := (1 : Int32)) hx hb d_Strip_write_26 (by decide) ?_
    refine lv_iadd hx hb d_Strip_write_27 ?_
    obtain ⟨u28, e28, hM⟩ := gb_some hM
    refine g_putI C hP hS gl_Strip_24 rfl rfl gq_7_3 d_Strip_write_28 (fun H locs hP hS => ?_)
    rw [Option.some.inj e28] at hP
    exact t_Strip_write_b31 C hM hR ls H locs (lv_sub hl [] rfl) hP hS
theorem c_Strip_write {l : Launch} {cy : Nat → ClassId} {D : va_G} {ρ : Nat → Nat} {A : Nat → Prop} (hD : gD ρ A) {x1 : Int32} {u : gSt} {z : gSt} (hM : M_Strip_write x1 u = some z) : gCtV l y_Strip_write prog_9_method_3_code 2 none 0 0 cy D ρ A [.ref (ρ 38), .int x1] u z :=
  g_met (by decide) hD (Nat.le_of_ble_eq_true rfl) (fun p e s m below meth c ls X hl hP => t_Strip_write X hM (fun pc ls H locs hd hP hS => g_vret X hP hS hd) ls _ [] hl hP va_S.rf)
end
section
variable {p : Program} {l : Launch} {e : Env} {R : Room} {s : State} {m : MethodId} {args : Array Value} {below : List Frame} {meth : Method} {c : Code} {Q : State → Prop} {H0 : Heap} {cells slots : Nat} {cy : Nat → ClassId} {D : va_G} {ρ : Nat → Nat} {A : Nat → Prop}
def y_Strip_writeNextDigit : MethodName := ⟨"TermDesk$Strip", "writeNextDigit", "()V"⟩
theorem gi_Strip_writeNextDigit : gMi y_Strip_writeNextDigit prog_9_method_9_code 2 none 0 7 := ⟨(gWs_at 1012 (by decide +kernel) (by decide +kernel)), (gWs_at 1011 (by decide +kernel) (by decide +kernel)), (gWs_at 65 (by decide +kernel) (by decide +kernel)), (gWs_at 124 (by decide +kernel) (by decide +kernel)), ⟨by decide +kernel, by decide +kernel, by decide +kernel⟩, _, _, rfl⟩
theorem gm_Strip_63 : gMk "TermDesk$Strip" 63 y_Strip_writeNextDigit := Or.inl (gWs_at 1009 (by decide +kernel) (by decide +kernel))
theorem d_Strip_writeNextDigit_0 : decode prog_9_method_9_code 0 = .ok (.iconst 0, 1) := by decide +kernel
theorem d_Strip_writeNextDigit_1 : decode prog_9_method_9_code 1 = .ok (.istore_n 1, 1) := by decide +kernel
theorem d_Strip_writeNextDigit_2 : decode prog_9_method_9_code 2 = .ok (.iload_n 1, 1) := by decide +kernel
theorem d_Strip_writeNextDigit_3 : decode prog_9_method_9_code 3 = .ok (.bipush 9, 2) := by decide +kernel
theorem d_Strip_writeNextDigit_5 : decode prog_9_method_9_code 5 = .ok (.if_icmp .ge 34, 3) := by decide +kernel
theorem d_Strip_writeNextDigit_8 : decode prog_9_method_9_code 8 = .ok (.aload_n 0, 1) := by decide +kernel
theorem d_Strip_writeNextDigit_9 : decode prog_9_method_9_code 9 = .ok (.getfield 17, 3) := by decide +kernel
theorem d_Strip_writeNextDigit_12 : decode prog_9_method_9_code 12 = .ok (.aload_n 0, 1) := by decide +kernel
theorem d_Strip_writeNextDigit_13 : decode prog_9_method_9_code 13 = .ok (.getfield 21, 3) := by decide +kernel
theorem d_Strip_writeNextDigit_16 : decode prog_9_method_9_code 16 = .ok (.invokestatic 39, 3) := by decide +kernel
theorem d_Strip_writeNextDigit_19 : decode prog_9_method_9_code 19 = .ok (.ifCond .lt 20, 3) := by decide +kernel
theorem d_Strip_writeNextDigit_22 : decode prog_9_method_9_code 22 = .ok (.aload_n 0, 1) := by decide +kernel
theorem d_Strip_writeNextDigit_23 : decode prog_9_method_9_code 23 = .ok (.getfield 17, 3) := by decide +kernel
theorem d_Strip_writeNextDigit_26 : decode prog_9_method_9_code 26 = .ok (.aload_n 0, 1) := by decide +kernel
theorem d_Strip_writeNextDigit_27 : decode prog_9_method_9_code 27 = .ok (.getfield 21, 3) := by decide +kernel
theorem d_Strip_writeNextDigit_30 : decode prog_9_method_9_code 30 = .ok (.invokestatic 69, 3) := by decide +kernel
theorem d_Strip_writeNextDigit_33 : decode prog_9_method_9_code 33 = .ok (.iinc 1 1, 3) := by decide +kernel
theorem d_Strip_writeNextDigit_36 : decode prog_9_method_9_code 36 = .ok (.goto (-34), 3) := by decide +kernel
theorem d_Strip_writeNextDigit_39 : decode prog_9_method_9_code 39 = .ok (.aload_n 0, 1) := by decide +kernel
theorem d_Strip_writeNextDigit_40 : decode prog_9_method_9_code 40 = .ok (.bipush 48, 2) := by decide +kernel
theorem d_Strip_writeNextDigit_42 : decode prog_9_method_9_code 42 = .ok (.iload_n 1, 1) := by decide +kernel
theorem d_Strip_writeNextDigit_43 : decode prog_9_method_9_code 43 = .ok (.iadd, 1) := by decide +kernel
theorem d_Strip_writeNextDigit_44 : decode prog_9_method_9_code 44 = .ok (.invokevirtual 43, 3) := by decide +kernel
theorem d_Strip_writeNextDigit_47 : decode prog_9_method_9_code 47 = .ok (.return_, 1) := by decide +kernel
noncomputable def M_Strip_writeNextDigit_b2 (x1 : Int32) (u : gSt) : Option ((Int32 × gSt) ⊕ ((Int32 × gSt))) :=
  if (9 : Int32) ≤ x1 then
    (some (.inr (x1, u)))
  else
    ((M_Wide_compare 40 41 u).bind fun q16 =>
    if q16.1 < (0 : Int32) then
      (some (.inr (x1, q16.2)))
    else
      ((M_Wide_subtract 40 41 q16.2).bind fun q30 =>
      some (.inl (x1 + (1 : Int32), q30))))
set_option maxHeartbeats 4000000 in
set_option maxRecDepth 100000 in
theorem t_Strip_writeNextDigit_b2 (C : gX "TermDesk$Strip" prog_9_method_9_code 2 none 1 24 R cells slots cy D ρ A p s m args meth c) {x1 : Int32} {u : gSt} {z : (Int32 × gSt) ⊕ ((Int32 × gSt))} (hM : M_Strip_writeNextDigit_b2 x1 u = some z) (hN : ∀ x1' u', z = .inl (x1', u') → gAt p l e R s m args below meth c Q H0 cells slots cy D ρ A 2 2 [(0, .ref (ρ 38)), (1, .int (x1'))] [] (u')) (hE0 : ∀ x1' u', z = .inr (x1', u') → gAt p l e R s m args below meth c Q H0 cells slots cy D ρ A 2 39 [(0, .ref (ρ 38)), (1, .int (x1'))] [] (u')) : gAt p l e R s m args below meth c Q H0 cells slots cy D ρ A 2 2 [(0, .ref (ρ 38)), (1, .int x1)] [] u := by
  intro ls H locs hl hP hS
  have hx := C.1
  have hb := C.2.1
  unfold M_Strip_writeNextDigit_b2 at hM
  refine lv_iload_n hx hb d_Strip_writeNextDigit_2 rfl (lv_at hl 1 rfl) ?_
  refine lv_bipush (v := (9 : Int32)) hx hb d_Strip_writeNextDigit_3 (by decide) ?_
  refine lv_icmp_ge (tgt := 39) hx hb d_Strip_writeNextDigit_5 (by decide) (fun hc5 => ?_) (fun hc5 => ?_)
  · replace hM := gi_t hc5 hM
    exact hE0 _ _ (Option.some.inj hM).symm ls H locs (lv_sub hl [0, 1] rfl) hP hS
  · replace hM := gi_f hc5 hM
    refine lv_aload_n hx hb d_Strip_writeNextDigit_8 rfl (lv_at hl 0 rfl) ?_
    refine g_getR (b := 40) C hP gl_Strip_17 rfl rfl rfl d_Strip_writeNextDigit_9 ?_
    refine lv_aload_n hx hb d_Strip_writeNextDigit_12 rfl (lv_at hl 0 rfl) ?_
    refine g_getR (b := 41) C hP gl_Strip_21 rfl rfl rfl d_Strip_writeNextDigit_13 ?_
    obtain ⟨q16, hq16, hM⟩ := gb_some hM
    refine g_backI (g_runS (As := [.ref (ρ 40), .ref (ρ 41)]) C hP (c_Wide_compare C.2.2.2.2.2.2.2.2.1 hq16) gi_Wide_compare gm_Strip_39 rfl (by decide) (by decide) hl.1 rfl (Nat.le_of_ble_eq_true rfl) d_Strip_writeNextDigit_16) hS (fun H locs hP hS => ?_)
    refine lv_if_lt (tgt := 39) hx hb d_Strip_writeNextDigit_19 (by decide) (fun hc19 => ?_) (fun hc19 => ?_)
    · replace hM := gi_t hc19 hM
      exact hE0 _ _ (Option.some.inj hM).symm ls H locs (lv_sub hl [0, 1] rfl) hP hS
    · replace hM := gi_f hc19 hM
      refine lv_aload_n hx hb d_Strip_writeNextDigit_22 rfl (lv_at hl 0 rfl) ?_
      refine g_getR (b := 40) C hP gl_Strip_17 rfl rfl rfl d_Strip_writeNextDigit_23 ?_
      refine lv_aload_n hx hb d_Strip_writeNextDigit_26 rfl (lv_at hl 0 rfl) ?_
      refine g_getR (b := 41) C hP gl_Strip_21 rfl rfl rfl d_Strip_writeNextDigit_27 ?_
      obtain ⟨q30, hq30, hM⟩ := gb_some hM
      refine g_backV (g_runS (As := [.ref (ρ 40), .ref (ρ 41)]) C hP (c_Wide_subtract C.2.2.2.2.2.2.2.2.1 hq30) gi_Wide_subtract gm_Strip_69 rfl (by decide) (by decide) hl.1 rfl (Nat.le_of_ble_eq_true rfl) d_Strip_writeNextDigit_30) hS (fun H locs hP hS => ?_)
      refine lv_iinc (k := 1) (v := x1 + (1 : Int32)) (lv' := [(1, .int (x1 + (1 : Int32))), (0, .ref (ρ 38))]) hx hb d_Strip_writeNextDigit_33 hl rfl (congrArg (fun z => x1 + z) (by decide)) (by decide) rfl (fun ls hl => ?_)
      refine lv_goto (tgt := 2) hx hb d_Strip_writeNextDigit_36 (by decide) ?_
      exact hN _ _ (Option.some.inj hM).symm ls H locs (lv_sub hl [1, 0] rfl) hP hS
noncomputable def M_Strip_writeNextDigit_L2 : (Int32 × gSt) → Option ((Int32 × gSt) ⊕ ((Int32 × gSt))) := fun x => M_Strip_writeNextDigit_b2 x.1 x.2
theorem t_Strip_writeNextDigit_L2 (C : gX "TermDesk$Strip" prog_9_method_9_code 2 none 1 24 R cells slots cy D ρ A p s m args meth c) {x1 : Int32} {u : gSt} {yy : (Int32 × gSt)} (hL : gLp M_Strip_writeNextDigit_L2 (x1, u) = some yy) (hE0 : (∀ y', yy = y' → gAt p l e R s m args below meth c Q H0 cells slots cy D ρ A 2 39 [(0, .ref (ρ 38)), (1, .int (y'.1))] [] (y'.2))) : gAt p l e R s m args below meth c Q H0 cells slots cy D ρ A 2 2 [(0, .ref (ρ 38)), (1, .int x1)] [] u :=
  g_loop (f := M_Strip_writeNextDigit_L2) (P := fun x => gAt p l e R s m args below meth c Q H0 cells slots cy D ρ A 2 2 [(0, .ref (ρ 38)), (1, .int x.1)] [] x.2) (E := fun yy => (∀ y', yy = y' → gAt p l e R s m args below meth c Q H0 cells slots cy D ρ A 2 39 [(0, .ref (ρ 38)), (1, .int (y'.1))] [] (y'.2))) (fun x z hf hN hE => t_Strip_writeNextDigit_b2 C hf (fun x1' u' h => hN (x1', u') h) (fun x1' u' h => (hE _ h) (x1', u') rfl)) hL hE0
noncomputable def M_Strip_writeNextDigit (u : gSt) : Option (gSt) :=
  (gLp M_Strip_writeNextDigit_L2 ((0 : Int32), u)).bind fun y2 =>
  (M_Strip_write ((48 : Int32) + y2.1) y2.2).bind fun q44 =>
  some q44
set_option maxHeartbeats 4000000 in
set_option maxRecDepth 100000 in
theorem t_Strip_writeNextDigit (C : gX "TermDesk$Strip" prog_9_method_9_code 2 none 1 24 R cells slots cy D ρ A p s m args meth c) {u : gSt} {z : gSt} (hM : M_Strip_writeNextDigit u = some z) (hR : gRtV p l e R s m args below meth c Q H0 cells slots cy D ρ A prog_9_method_9_code z) : gAt p l e R s m args below meth c Q H0 cells slots cy D ρ A 2 0 [(0, .ref (ρ 38))] [] u := by
  intro ls H locs hl hP hS
  have hx := C.1
  have hb := C.2.1
  unfold M_Strip_writeNextDigit at hM
  refine lv_iconst (v := (0 : Int32)) hx hb d_Strip_writeNextDigit_0 (by decide) ?_
  refine lv_istore_n (lv' := [(1, .int (0 : Int32)), (0, .ref (ρ 38))]) hx hb d_Strip_writeNextDigit_1 rfl hl (by decide) rfl (fun ls hl => ?_)
  obtain ⟨y2, hL2, hM⟩ := gb_some hM
  refine t_Strip_writeNextDigit_L2 C hL2 (fun y2_0 hy => ?_) ls H locs (lv_sub hl [1, 0] rfl) hP hS
  · subst hy
    intro ls H locs hl hP hS
    refine lv_aload_n hx hb d_Strip_writeNextDigit_39 rfl (lv_at hl 0 rfl) ?_
    refine lv_bipush (v := (48 : Int32)) hx hb d_Strip_writeNextDigit_40 (by decide) ?_
    refine lv_iload_n hx hb d_Strip_writeNextDigit_42 rfl (lv_at hl 1 rfl) ?_
    refine lv_iadd hx hb d_Strip_writeNextDigit_43 ?_
    obtain ⟨q44, hq44, hM⟩ := gb_some hM
    refine g_backV (g_runV (As := [.int ((48 : Int32) + y2.1)]) C hP (c_Strip_write C.2.2.2.2.2.2.2.2.1 hq44) gi_Strip_write gm_Strip_43 rfl rfl (by decide) (by decide) hl.1 rfl (Nat.le_of_ble_eq_true rfl) d_Strip_writeNextDigit_44) hS (fun H locs hP hS => ?_)
    obtain rfl := Option.some.inj hM
    exact hR _ ls H locs d_Strip_writeNextDigit_47 hP hS
theorem c_Strip_writeNextDigit {l : Launch} {cy : Nat → ClassId} {D : va_G} {ρ : Nat → Nat} {A : Nat → Prop} (hD : gD ρ A) {u : gSt} {z : gSt} (hM : M_Strip_writeNextDigit u = some z) : gCtV l y_Strip_writeNextDigit prog_9_method_9_code 2 none 1 24 cy D ρ A [.ref (ρ 38)] u z :=
  g_met (by decide) hD (Nat.le_of_ble_eq_true rfl) (fun p e s m below meth c ls X hl hP => t_Strip_writeNextDigit X hM (fun pc ls H locs hd hP hS => g_vret X hP hS hd) ls _ [] hl hP va_S.rf)
end
section
variable {p : Program} {l : Launch} {e : Env} {R : Room} {s : State} {m : MethodId} {args : Array Value} {below : List Frame} {meth : Method} {c : Code} {Q : State → Prop} {H0 : Heap} {cells slots : Nat} {cy : Nat → ClassId} {D : va_G} {ρ : Nat → Nat} {A : Nat → Prop}
def y_Strip_raiseLastDigit : MethodName := ⟨"TermDesk$Strip", "raiseLastDigit", "()V"⟩
theorem gi_Strip_raiseLastDigit : gMi y_Strip_raiseLastDigit prog_9_method_10_code 2 none 0 7 := ⟨(gWs_at 1020 (by decide +kernel) (by decide +kernel)), (gWs_at 1019 (by decide +kernel) (by decide +kernel)), (gWs_at 66 (by decide +kernel) (by decide +kernel)), (gWs_at 124 (by decide +kernel) (by decide +kernel)), ⟨by decide +kernel, by decide +kernel, by decide +kernel⟩, _, _, rfl⟩
theorem gm_Strip_66 : gMk "TermDesk$Strip" 66 y_Strip_raiseLastDigit := Or.inl (gWs_at 1017 (by decide +kernel) (by decide +kernel))
theorem d_Strip_raiseLastDigit_0 : decode prog_9_method_10_code 0 = .ok (.aload_n 0, 1) := by decide +kernel
theorem d_Strip_raiseLastDigit_1 : decode prog_9_method_10_code 1 = .ok (.getfield 24, 3) := by decide +kernel
theorem d_Strip_raiseLastDigit_4 : decode prog_9_method_10_code 4 = .ok (.iconst 1, 1) := by decide +kernel
theorem d_Strip_raiseLastDigit_5 : decode prog_9_method_10_code 5 = .ok (.isub, 1) := by decide +kernel
theorem d_Strip_raiseLastDigit_6 : decode prog_9_method_10_code 6 = .ok (.istore_n 1, 1) := by decide +kernel
theorem d_Strip_raiseLastDigit_7 : decode prog_9_method_10_code 7 = .ok (.iload_n 1, 1) := by decide +kernel
theorem d_Strip_raiseLastDigit_8 : decode prog_9_method_10_code 8 = .ok (.ifCond .lt 54, 3) := by decide +kernel
theorem d_Strip_raiseLastDigit_11 : decode prog_9_method_10_code 11 = .ok (.aload_n 0, 1) := by decide +kernel
theorem d_Strip_raiseLastDigit_12 : decode prog_9_method_10_code 12 = .ok (.getfield 9, 3) := by decide +kernel
theorem d_Strip_raiseLastDigit_15 : decode prog_9_method_10_code 15 = .ok (.iload_n 1, 1) := by decide +kernel
theorem d_Strip_raiseLastDigit_16 : decode prog_9_method_10_code 16 = .ok (.caload, 1) := by decide +kernel
theorem d_Strip_raiseLastDigit_17 : decode prog_9_method_10_code 17 = .ok (.bipush 57, 2) := by decide +kernel
theorem d_Strip_raiseLastDigit_19 : decode prog_9_method_10_code 19 = .ok (.if_icmp .ne 14, 3) := by decide +kernel
theorem d_Strip_raiseLastDigit_22 : decode prog_9_method_10_code 22 = .ok (.aload_n 0, 1) := by decide +kernel
theorem d_Strip_raiseLastDigit_23 : decode prog_9_method_10_code 23 = .ok (.getfield 9, 3) := by decide +kernel
theorem d_Strip_raiseLastDigit_26 : decode prog_9_method_10_code 26 = .ok (.iload_n 1, 1) := by decide +kernel
theorem d_Strip_raiseLastDigit_27 : decode prog_9_method_10_code 27 = .ok (.bipush 48, 2) := by decide +kernel
theorem d_Strip_raiseLastDigit_29 : decode prog_9_method_10_code 29 = .ok (.castore, 1) := by decide +kernel
theorem d_Strip_raiseLastDigit_30 : decode prog_9_method_10_code 30 = .ok (.goto 26, 3) := by decide +kernel
theorem d_Strip_raiseLastDigit_33 : decode prog_9_method_10_code 33 = .ok (.aload_n 0, 1) := by decide +kernel
theorem d_Strip_raiseLastDigit_34 : decode prog_9_method_10_code 34 = .ok (.getfield 9, 3) := by decide +kernel
theorem d_Strip_raiseLastDigit_37 : decode prog_9_method_10_code 37 = .ok (.iload_n 1, 1) := by decide +kernel
theorem d_Strip_raiseLastDigit_38 : decode prog_9_method_10_code 38 = .ok (.caload, 1) := by decide +kernel
theorem d_Strip_raiseLastDigit_39 : decode prog_9_method_10_code 39 = .ok (.bipush 46, 2) := by decide +kernel
theorem d_Strip_raiseLastDigit_41 : decode prog_9_method_10_code 41 = .ok (.if_icmp .eq 15, 3) := by decide +kernel
theorem d_Strip_raiseLastDigit_44 : decode prog_9_method_10_code 44 = .ok (.aload_n 0, 1) := by decide +kernel
theorem d_Strip_raiseLastDigit_45 : decode prog_9_method_10_code 45 = .ok (.getfield 9, 3) := by decide +kernel
theorem d_Strip_raiseLastDigit_48 : decode prog_9_method_10_code 48 = .ok (.iload_n 1, 1) := by decide +kernel
theorem d_Strip_raiseLastDigit_49 : decode prog_9_method_10_code 49 = .ok (.dup2, 1) := by decide +kernel
theorem d_Strip_raiseLastDigit_50 : decode prog_9_method_10_code 50 = .ok (.caload, 1) := by decide +kernel
theorem d_Strip_raiseLastDigit_51 : decode prog_9_method_10_code 51 = .ok (.iconst 1, 1) := by decide +kernel
theorem d_Strip_raiseLastDigit_52 : decode prog_9_method_10_code 52 = .ok (.iadd, 1) := by decide +kernel
theorem d_Strip_raiseLastDigit_53 : decode prog_9_method_10_code 53 = .ok (.i2c, 1) := by decide +kernel
theorem d_Strip_raiseLastDigit_54 : decode prog_9_method_10_code 54 = .ok (.castore, 1) := by decide +kernel
theorem d_Strip_raiseLastDigit_55 : decode prog_9_method_10_code 55 = .ok (.return_, 1) := by decide +kernel
theorem d_Strip_raiseLastDigit_56 : decode prog_9_method_10_code 56 = .ok (.iinc 1 (-1), 3) := by decide +kernel
theorem d_Strip_raiseLastDigit_59 : decode prog_9_method_10_code 59 = .ok (.goto (-52), 3) := by decide +kernel
theorem d_Strip_raiseLastDigit_62 : decode prog_9_method_10_code 62 = .ok (.return_, 1) := by decide +kernel
noncomputable def M_Strip_raiseLastDigit_b56 (x1 : Int32) (u : gSt) : Option ((Int32 × gSt) ⊕ ((gSt) ⊕ (Int32 × gSt))) :=
  some (.inl (x1 + (-1 : Int32), u))
set_option maxHeartbeats 4000000 in
set_option maxRecDepth 100000 in
theorem t_Strip_raiseLastDigit_b56 (C : gX "TermDesk$Strip" prog_9_method_10_code 2 none 0 0 R cells slots cy D ρ A p s m args meth c) {x1 : Int32} {u : gSt} {z : (Int32 × gSt) ⊕ ((gSt) ⊕ (Int32 × gSt))} (hM : M_Strip_raiseLastDigit_b56 x1 u = some z) (hN : ∀ x1' u', z = .inl (x1', u') → gAt p l e R s m args below meth c Q H0 cells slots cy D ρ A 2 7 [(0, .ref (ρ 38)), (1, .int (x1'))] [] (u')) (hE0 : ∀ u', z = .inr (.inl u') → gAt p l e R s m args below meth c Q H0 cells slots cy D ρ A 2 62 [] [] (u')) (hE1 : ∀ x1' u', z = .inr (.inr (x1', u')) → gAt p l e R s m args below meth c Q H0 cells slots cy D ρ A 2 44 [(0, .ref (ρ 38)), (1, .int (x1'))] [] (u')) : gAt p l e R s m args below meth c Q H0 cells slots cy D ρ A 2 56 [(0, .ref (ρ 38)), (1, .int x1)] [] u := by
  intro ls H locs hl hP hS
  have hx := C.1
  have hb := C.2.1
  unfold M_Strip_raiseLastDigit_b56 at hM
  refine lv_iinc (k := 1) (v := x1 + (-1 : Int32)) (lv' := [(1, .int (x1 + (-1 : Int32))), (0, .ref (ρ 38))]) hx hb d_Strip_raiseLastDigit_56 hl rfl (congrArg (fun z => x1 + z) (by decide)) (by decide) rfl (fun ls hl => ?_)
  refine lv_goto (tgt := 7) hx hb d_Strip_raiseLastDigit_59 (by decide) ?_
  exact hN _ _ (Option.some.inj hM).symm ls H locs (lv_sub hl [1, 0] rfl) hP hS
noncomputable def M_Strip_raiseLastDigit_b7 (x1 : Int32) (u : gSt) : Option ((Int32 × gSt) ⊕ ((gSt) ⊕ (Int32 × gSt))) :=
  if x1 < (0 : Int32) then
    (some (.inr (.inl u)))
  else
    (gc (gIn x1 (gLen 39)) <| if (u.2.2.1 39 (gIx x1)) = (57 : Int32) then
      (gc (gIn x1 (gLen 39)) <| (some (gsA u 39 (gIx x1) ((48 : Int32).toUInt32.toUInt16.toUInt32.toInt32))).bind fun u29 =>
      M_Strip_raiseLastDigit_b56 x1 u29)
    else
      (gc (gIn x1 (gLen 39)) <| if (u.2.2.1 39 (gIx x1)) = (46 : Int32) then
        (M_Strip_raiseLastDigit_b56 x1 u)
      else
        (some (.inr (.inr (x1, u))))))
set_option maxHeartbeats 4000000 in
set_option maxRecDepth 100000 in
theorem t_Strip_raiseLastDigit_b7 (C : gX "TermDesk$Strip" prog_9_method_10_code 2 none 0 0 R cells slots cy D ρ A p s m args meth c) {x1 : Int32} {u : gSt} {z : (Int32 × gSt) ⊕ ((gSt) ⊕ (Int32 × gSt))} (hM : M_Strip_raiseLastDigit_b7 x1 u = some z) (hN : ∀ x1' u', z = .inl (x1', u') → gAt p l e R s m args below meth c Q H0 cells slots cy D ρ A 2 7 [(0, .ref (ρ 38)), (1, .int (x1'))] [] (u')) (hE0 : ∀ u', z = .inr (.inl u') → gAt p l e R s m args below meth c Q H0 cells slots cy D ρ A 2 62 [] [] (u')) (hE1 : ∀ x1' u', z = .inr (.inr (x1', u')) → gAt p l e R s m args below meth c Q H0 cells slots cy D ρ A 2 44 [(0, .ref (ρ 38)), (1, .int (x1'))] [] (u')) : gAt p l e R s m args below meth c Q H0 cells slots cy D ρ A 2 7 [(0, .ref (ρ 38)), (1, .int x1)] [] u := by
  intro ls H locs hl hP hS
  have hx := C.1
  have hb := C.2.1
  unfold M_Strip_raiseLastDigit_b7 at hM
  refine lv_iload_n hx hb d_Strip_raiseLastDigit_7 rfl (lv_at hl 1 rfl) ?_
  refine lv_if_lt (tgt := 62) hx hb d_Strip_raiseLastDigit_8 (by decide) (fun hc8 => ?_) (fun hc8 => ?_)
  · replace hM := gi_t hc8 hM
    exact hE0 _ (Option.some.inj hM).symm ls H locs (lv_sub hl [] rfl) hP hS
  · replace hM := gi_f hc8 hM
    refine lv_aload_n hx hb d_Strip_raiseLastDigit_11 rfl (lv_at hl 0 rfl) ?_
    refine g_getR (b := 39) C hP gl_Strip_9 rfl rfl rfl d_Strip_raiseLastDigit_12 ?_
    refine lv_iload_n hx hb d_Strip_raiseLastDigit_15 rfl (lv_at hl 1 rfl) ?_
    obtain ⟨hi16, hM⟩ := gc_some hM
    refine g_cald C hP rfl hi16 d_Strip_raiseLastDigit_16 ?_
    refine lv_bipush (v := (57 : Int32)) hx hb d_Strip_raiseLastDigit_17 (by decide) ?_
    refine lv_icmp_ne (tgt := 33) hx hb d_Strip_raiseLastDigit_19 (by decide) (fun hc19 => ?_) (fun hc19 => ?_)
    · replace hM := gi_f hc19 hM
      refine lv_aload_n hx hb d_Strip_raiseLastDigit_33 rfl (lv_at hl 0 rfl) ?_
      refine g_getR (b := 39) C hP gl_Strip_9 rfl rfl rfl d_Strip_raiseLastDigit_34 ?_
      refine lv_iload_n hx hb d_Strip_raiseLastDigit_37 rfl (lv_at hl 1 rfl) ?_
      obtain ⟨hi38, hM⟩ := gc_some hM
      refine g_cald C hP rfl hi38 d_Strip_raiseLastDigit_38 ?_
      refine lv_bipush (v := (46 : Int32)) hx hb d_Strip_raiseLastDigit_39 (by decide) ?_
      refine lv_icmp_eq (tgt := 56) hx hb d_Strip_raiseLastDigit_41 (by decide) (fun hc41 => ?_) (fun hc41 => ?_)
      · replace hM := gi_t hc41 hM
        exact t_Strip_raiseLastDigit_b56 C hM hN hE0 hE1 ls H locs (lv_sub hl [0, 1] rfl) hP hS
      · replace hM := gi_f hc41 hM
        exact hE1 _ _ (Option.some.inj hM).symm ls H locs (lv_sub hl [0, 1] rfl) hP hS
    · replace hM := gi_t hc19 hM
      refine lv_aload_n hx hb d_Strip_raiseLastDigit_22 rfl (lv_at hl 0 rfl) ?_
      refine g_getR (b := 39) C hP gl_Strip_9 rfl rfl rfl d_Strip_raiseLastDigit_23 ?_
      refine lv_iload_n hx hb d_Strip_raiseLastDigit_26 rfl (lv_at hl 1 rfl) ?_
      refine lv_bipush (v := (48 : Int32)) hx hb d_Strip_raiseLastDigit_27 (by decide) ?_
      obtain ⟨hi29, hM⟩ := gc_some hM
      obtain ⟨u29, e29, hM⟩ := gb_some hM
      refine g_cast C hP hS rfl hi29 d_Strip_raiseLastDigit_29 (fun H locs hP hS => ?_)
      rw [Option.some.inj e29] at hP
      refine lv_goto (tgt := 56) hx hb d_Strip_raiseLastDigit_30 (by decide) ?_
      exact t_Strip_raiseLastDigit_b56 C hM hN hE0 hE1 ls H locs (lv_sub hl [0, 1] rfl) hP hS
noncomputable def M_Strip_raiseLastDigit_L7 : (Int32 × gSt) → Option ((Int32 × gSt) ⊕ ((gSt) ⊕ (Int32 × gSt))) := fun x => M_Strip_raiseLastDigit_b7 x.1 x.2
theorem t_Strip_raiseLastDigit_L7 (C : gX "TermDesk$Strip" prog_9_method_10_code 2 none 0 0 R cells slots cy D ρ A p s m args meth c) {x1 : Int32} {u : gSt} {yy : (gSt) ⊕ (Int32 × gSt)} (hL : gLp M_Strip_raiseLastDigit_L7 (x1, u) = some yy) (hE0 : (∀ y', yy = (.inl y') → gAt p l e R s m args below meth c Q H0 cells slots cy D ρ A 2 62 [] [] (y'))) (hE1 : (∀ y', yy = (.inr y') → gAt p l e R s m args below meth c Q H0 cells slots cy D ρ A 2 44 [(0, .ref (ρ 38)), (1, .int (y'.1))] [] (y'.2))) : gAt p l e R s m args below meth c Q H0 cells slots cy D ρ A 2 7 [(0, .ref (ρ 38)), (1, .int x1)] [] u :=
  g_loop (f := M_Strip_raiseLastDigit_L7) (P := fun x => gAt p l e R s m args below meth c Q H0 cells slots cy D ρ A 2 7 [(0, .ref (ρ 38)), (1, .int x.1)] [] x.2) (E := fun yy => (∀ y', yy = (.inl y') → gAt p l e R s m args below meth c Q H0 cells slots cy D ρ A 2 62 [] [] (y')) ∧ (∀ y', yy = (.inr y') → gAt p l e R s m args below meth c Q H0 cells slots cy D ρ A 2 44 [(0, .ref (ρ 38)), (1, .int (y'.1))] [] (y'.2))) (fun x z hf hN hE => t_Strip_raiseLastDigit_b7 C hf (fun x1' u' h => hN (x1', u') h) (fun u' h => (hE _ h).1 u' rfl) (fun x1' u' h => (hE _ h).2 (x1', u') rfl)) hL ⟨hE0, hE1⟩
noncomputable def M_Strip_raiseLastDigit (u : gSt) : Option (gSt) :=
  (gLp M_Strip_raiseLastDigit_L7 ((u.1 38 3) - (1 : Int32), u)).bind fun y7 =>
  (Sum.elim (fun y7_0 => some y7_0) (fun y7_1 => gc (gIn y7_1.1 (gLen 39)) <| gc (gIn y7_1.1 (gLen 39)) <| (some (gsA y7_1.2 39 (gIx y7_1.1) (((((y7_1.2.2.2.1 39 (gIx y7_1.1)) + (1 : Int32)).toUInt32 % 65536).toInt32).toUInt32.toUInt16.toUInt32.toInt32))).bind fun u54 =>
  some u54)) y7
set_option maxHeartbeats 4000000 in
set_option maxRecDepth 100000 in
theorem t_Strip_raiseLastDigit (C : gX "TermDesk$Strip" prog_9_method_10_code 2 none 0 0 R cells slots cy D ρ A p s m args meth c) {u : gSt} {z : gSt} (hM : M_Strip_raiseLastDigit u = some z) (hR : gRtV p l e R s m args below meth c Q H0 cells slots cy D ρ A prog_9_method_10_code z) : gAt p l e R s m args below meth c Q H0 cells slots cy D ρ A 2 0 [(0, .ref (ρ 38))] [] u := by
  intro ls H locs hl hP hS
  have hx := C.1
  have hb := C.2.1
  unfold M_Strip_raiseLastDigit at hM
  refine lv_aload_n hx hb d_Strip_raiseLastDigit_0 rfl (lv_at hl 0 rfl) ?_
  refine g_getI C hP gl_Strip_24 rfl rfl d_Strip_raiseLastDigit_1 ?_
  refine lv_iconst (v := (1 : Int32)) hx hb d_Strip_raiseLastDigit_4 (by decide) ?_
  refine lv_isub hx hb d_Strip_raiseLastDigit_5 ?_
  refine lv_istore_n (lv' := [(1, .int ((u.1 38 3) - (1 : Int32))), (0, .ref (ρ 38))]) hx hb d_Strip_raiseLastDigit_6 rfl hl (by decide) rfl (fun ls hl => ?_)
  obtain ⟨y7, hL7, hM⟩ := gb_some hM
  refine t_Strip_raiseLastDigit_L7 C hL7 (fun y7_0 hy => ?_) (fun y7_1 hy => ?_) ls H locs (lv_sub hl [1, 0] rfl) hP hS
  · subst hy
    replace hM := gs_l hM
    intro ls H locs hl hP hS
    obtain rfl := Option.some.inj hM
    exact hR _ ls H locs d_Strip_raiseLastDigit_62 hP hS
  · subst hy
    replace hM := gs_r hM
    intro ls H locs hl hP hS
    refine lv_aload_n hx hb d_Strip_raiseLastDigit_44 rfl (lv_at hl 0 rfl) ?_
    refine g_getR (b := 39) C hP gl_Strip_9 rfl rfl rfl d_Strip_raiseLastDigit_45 ?_
    refine lv_iload_n hx hb d_Strip_raiseLastDigit_48 rfl (lv_at hl 1 rfl) ?_
    refine lv_dup2_11 hx hb d_Strip_raiseLastDigit_49 rfl rfl ?_
    obtain ⟨hi50, hM⟩ := gc_some hM
    refine g_cald C hP rfl hi50 d_Strip_raiseLastDigit_50 ?_
    refine lv_iconst (v := (1 : Int32)) hx hb d_Strip_raiseLastDigit_51 (by decide) ?_
    refine lv_iadd hx hb d_Strip_raiseLastDigit_52 ?_
    refine lv_i2c (v := (((y7_1.2.2.2.1 39 (gIx y7_1.1)) + (1 : Int32)).toUInt32 % 65536).toInt32) hx hb d_Strip_raiseLastDigit_53 rfl ?_
    obtain ⟨hi54, hM⟩ := gc_some hM
    obtain ⟨u54, e54, hM⟩ := gb_some hM
    refine g_cast C hP hS rfl hi54 d_Strip_raiseLastDigit_54 (fun H locs hP hS => ?_)
    rw [Option.some.inj e54] at hP
    obtain rfl := Option.some.inj hM
    exact hR _ ls H locs d_Strip_raiseLastDigit_55 hP hS
theorem c_Strip_raiseLastDigit {l : Launch} {cy : Nat → ClassId} {D : va_G} {ρ : Nat → Nat} {A : Nat → Prop} (hD : gD ρ A) {u : gSt} {z : gSt} (hM : M_Strip_raiseLastDigit u = some z) : gCtV l y_Strip_raiseLastDigit prog_9_method_10_code 2 none 0 0 cy D ρ A [.ref (ρ 38)] u z :=
  g_met (by decide) hD (Nat.le_of_ble_eq_true rfl) (fun p e s m below meth c ls X hl hP => t_Strip_raiseLastDigit X hM (fun pc ls H locs hd hP hS => g_vret X hP hS hd) ls _ [] hl hP va_S.rf)
end
section
variable {p : Program} {l : Launch} {e : Env} {R : Room} {s : State} {m : MethodId} {args : Array Value} {below : List Frame} {meth : Method} {c : Code} {Q : State → Prop} {H0 : Heap} {cells slots : Nat} {cy : Nat → ClassId} {D : va_G} {ρ : Nat → Nat} {A : Nat → Prop}
def y_Strip_writeRounded : MethodName := ⟨"TermDesk$Strip", "writeRounded", "(I)V"⟩
theorem gi_Strip_writeRounded : gMi y_Strip_writeRounded prog_9_method_8_code 4 none 1 7 := ⟨(gWs_at 1008 (by decide +kernel) (by decide +kernel)), (gWs_at 1007 (by decide +kernel) (by decide +kernel)), (gWs_at 64 (by decide +kernel) (by decide +kernel)), (gWs_at 124 (by decide +kernel) (by decide +kernel)), ⟨by decide +kernel, by decide +kernel, by decide +kernel⟩, _, _, rfl⟩
theorem gm_Desk_234 : gMk "TermDesk" 234 y_Strip_writeRounded := Or.inr ⟨"TermDesk", gNs_at 1005 (by decide +kernel) (by decide +kernel)⟩
theorem d_Strip_writeRounded_0 : decode prog_9_method_8_code 0 = .ok (.aload_n 0, 1) := by decide +kernel
theorem d_Strip_writeRounded_1 : decode prog_9_method_8_code 1 = .ok (.invokevirtual 63, 3) := by decide +kernel
theorem d_Strip_writeRounded_4 : decode prog_9_method_8_code 4 = .ok (.iload_n 1, 1) := by decide +kernel
theorem d_Strip_writeRounded_5 : decode prog_9_method_8_code 5 = .ok (.ifCond .le 9, 3) := by decide +kernel
theorem d_Strip_writeRounded_8 : decode prog_9_method_8_code 8 = .ok (.aload_n 0, 1) := by decide +kernel
theorem d_Strip_writeRounded_9 : decode prog_9_method_8_code 9 = .ok (.bipush 46, 2) := by decide +kernel
theorem d_Strip_writeRounded_11 : decode prog_9_method_8_code 11 = .ok (.invokevirtual 43, 3) := by decide +kernel
theorem d_Strip_writeRounded_14 : decode prog_9_method_8_code 14 = .ok (.iconst 0, 1) := by decide +kernel
theorem d_Strip_writeRounded_15 : decode prog_9_method_8_code 15 = .ok (.istore_n 2, 1) := by decide +kernel
theorem d_Strip_writeRounded_16 : decode prog_9_method_8_code 16 = .ok (.iload_n 2, 1) := by decide +kernel
theorem d_Strip_writeRounded_17 : decode prog_9_method_8_code 17 = .ok (.iload_n 1, 1) := by decide +kernel
theorem d_Strip_writeRounded_18 : decode prog_9_method_8_code 18 = .ok (.if_icmp .ge 22, 3) := by decide +kernel
theorem d_Strip_writeRounded_21 : decode prog_9_method_8_code 21 = .ok (.aload_n 0, 1) := by decide +kernel
theorem d_Strip_writeRounded_22 : decode prog_9_method_8_code 22 = .ok (.getfield 17, 3) := by decide +kernel
theorem d_Strip_writeRounded_25 : decode prog_9_method_8_code 25 = .ok (.bipush 10, 2) := by decide +kernel
theorem d_Strip_writeRounded_27 : decode prog_9_method_8_code 27 = .ok (.invokestatic 32, 3) := by decide +kernel
theorem d_Strip_writeRounded_30 : decode prog_9_method_8_code 30 = .ok (.aload_n 0, 1) := by decide +kernel
theorem d_Strip_writeRounded_31 : decode prog_9_method_8_code 31 = .ok (.invokevirtual 63, 3) := by decide +kernel
theorem d_Strip_writeRounded_34 : decode prog_9_method_8_code 34 = .ok (.iinc 2 1, 3) := by decide +kernel
theorem d_Strip_writeRounded_37 : decode prog_9_method_8_code 37 = .ok (.goto (-21), 3) := by decide +kernel
theorem d_Strip_writeRounded_40 : decode prog_9_method_8_code 40 = .ok (.aload_n 0, 1) := by decide +kernel
theorem d_Strip_writeRounded_41 : decode prog_9_method_8_code 41 = .ok (.getfield 17, 3) := by decide +kernel
theorem d_Strip_writeRounded_44 : decode prog_9_method_8_code 44 = .ok (.iconst 2, 1) := by decide +kernel
theorem d_Strip_writeRounded_45 : decode prog_9_method_8_code 45 = .ok (.invokestatic 32, 3) := by decide +kernel
theorem d_Strip_writeRounded_48 : decode prog_9_method_8_code 48 = .ok (.aload_n 0, 1) := by decide +kernel
theorem d_Strip_writeRounded_49 : decode prog_9_method_8_code 49 = .ok (.getfield 17, 3) := by decide +kernel
theorem d_Strip_writeRounded_52 : decode prog_9_method_8_code 52 = .ok (.aload_n 0, 1) := by decide +kernel
theorem d_Strip_writeRounded_53 : decode prog_9_method_8_code 53 = .ok (.getfield 21, 3) := by decide +kernel
theorem d_Strip_writeRounded_56 : decode prog_9_method_8_code 56 = .ok (.invokestatic 39, 3) := by decide +kernel
theorem d_Strip_writeRounded_59 : decode prog_9_method_8_code 59 = .ok (.istore_n 2, 1) := by decide +kernel
theorem d_Strip_writeRounded_60 : decode prog_9_method_8_code 60 = .ok (.aload_n 0, 1) := by decide +kernel
theorem d_Strip_writeRounded_61 : decode prog_9_method_8_code 61 = .ok (.getfield 24, 3) := by decide +kernel
theorem d_Strip_writeRounded_64 : decode prog_9_method_8_code 64 = .ok (.ifCond .le 24, 3) := by decide +kernel
theorem d_Strip_writeRounded_67 : decode prog_9_method_8_code 67 = .ok (.aload_n 0, 1) := by decide +kernel
theorem d_Strip_writeRounded_68 : decode prog_9_method_8_code 68 = .ok (.getfield 9, 3) := by decide +kernel
theorem d_Strip_writeRounded_71 : decode prog_9_method_8_code 71 = .ok (.aload_n 0, 1) := by decide +kernel
theorem d_Strip_writeRounded_72 : decode prog_9_method_8_code 72 = .ok (.getfield 24, 3) := by decide +kernel
theorem d_Strip_writeRounded_75 : decode prog_9_method_8_code 75 = .ok (.iconst 1, 1) := by decide +kernel
theorem d_Strip_writeRounded_76 : decode prog_9_method_8_code 76 = .ok (.isub, 1) := by decide +kernel
theorem d_Strip_writeRounded_77 : decode prog_9_method_8_code 77 = .ok (.caload, 1) := by decide +kernel
theorem d_Strip_writeRounded_78 : decode prog_9_method_8_code 78 = .ok (.iconst 2, 1) := by decide +kernel
theorem d_Strip_writeRounded_79 : decode prog_9_method_8_code 79 = .ok (.irem, 1) := by decide +kernel
theorem d_Strip_writeRounded_80 : decode prog_9_method_8_code 80 = .ok (.iconst 1, 1) := by decide +kernel
theorem d_Strip_writeRounded_81 : decode prog_9_method_8_code 81 = .ok (.if_icmp .ne 7, 3) := by decide +kernel
theorem d_Strip_writeRounded_84 : decode prog_9_method_8_code 84 = .ok (.iconst 1, 1) := by decide +kernel
theorem d_Strip_writeRounded_85 : decode prog_9_method_8_code 85 = .ok (.goto 4, 3) := by decide +kernel
theorem d_Strip_writeRounded_88 : decode prog_9_method_8_code 88 = .ok (.iconst 0, 1) := by decide +kernel
theorem d_Strip_writeRounded_89 : decode prog_9_method_8_code 89 = .ok (.istore_n 3, 1) := by decide +kernel
theorem d_Strip_writeRounded_90 : decode prog_9_method_8_code 90 = .ok (.iload_n 2, 1) := by decide +kernel
theorem d_Strip_writeRounded_91 : decode prog_9_method_8_code 91 = .ok (.ifCond .gt 11, 3) := by decide +kernel
theorem d_Strip_writeRounded_94 : decode prog_9_method_8_code 94 = .ok (.iload_n 2, 1) := by decide +kernel
theorem d_Strip_writeRounded_95 : decode prog_9_method_8_code 95 = .ok (.ifCond .ne 11, 3) := by decide +kernel
theorem d_Strip_writeRounded_98 : decode prog_9_method_8_code 98 = .ok (.iload_n 3, 1) := by decide +kernel
theorem d_Strip_writeRounded_99 : decode prog_9_method_8_code 99 = .ok (.ifCond .eq 7, 3) := by decide +kernel
theorem d_Strip_writeRounded_102 : decode prog_9_method_8_code 102 = .ok (.aload_n 0, 1) := by decide +kernel
theorem d_Strip_writeRounded_103 : decode prog_9_method_8_code 103 = .ok (.invokevirtual 66, 3) := by decide +kernel
theorem d_Strip_writeRounded_106 : decode prog_9_method_8_code 106 = .ok (.return_, 1) := by decide +kernel
noncomputable def M_Strip_writeRounded_b16 (x1 : Int32) (x2 : Int32) (u : gSt) : Option ((Int32 × Int32 × gSt) ⊕ ((gSt))) :=
  if x1 ≤ x2 then
    (some (.inr u))
  else
    ((M_Wide_multiply 40 (10 : Int32) u).bind fun q27 =>
    (M_Strip_writeNextDigit q27).bind fun q31 =>
    some (.inl (x1, x2 + (1 : Int32), q31)))
set_option maxHeartbeats 4000000 in
set_option maxRecDepth 100000 in
theorem t_Strip_writeRounded_b16 (C : gX "TermDesk$Strip" prog_9_method_8_code 4 none 2 45 R cells slots cy D ρ A p s m args meth c) {x1 : Int32} {x2 : Int32} {u : gSt} {z : (Int32 × Int32 × gSt) ⊕ ((gSt))} (hM : M_Strip_writeRounded_b16 x1 x2 u = some z) (hN : ∀ x1' x2' u', z = .inl (x1', x2', u') → gAt p l e R s m args below meth c Q H0 cells slots cy D ρ A 4 16 [(0, .ref (ρ 38)), (1, .int (x1')), (2, .int (x2'))] [] (u')) (hE0 : ∀ u', z = .inr u' → gAt p l e R s m args below meth c Q H0 cells slots cy D ρ A 4 40 [(0, .ref (ρ 38))] [] (u')) : gAt p l e R s m args below meth c Q H0 cells slots cy D ρ A 4 16 [(0, .ref (ρ 38)), (1, .int x1), (2, .int x2)] [] u := by
  intro ls H locs hl hP hS
  have hx := C.1
  have hb := C.2.1
  unfold M_Strip_writeRounded_b16 at hM
  refine lv_iload_n hx hb d_Strip_writeRounded_16 rfl (lv_at hl 2 rfl) ?_
  refine lv_iload_n hx hb d_Strip_writeRounded_17 rfl (lv_at hl 1 rfl) ?_
  refine lv_icmp_ge (tgt := 40) hx hb d_Strip_writeRounded_18 (by decide) (fun hc18 => ?_) (fun hc18 => ?_)
  · replace hM := gi_t hc18 hM
    exact hE0 _ (Option.some.inj hM).symm ls H locs (lv_sub hl [0] rfl) hP hS
  · replace hM := gi_f hc18 hM
    refine lv_aload_n hx hb d_Strip_writeRounded_21 rfl (lv_at hl 0 rfl) ?_
    refine g_getR (b := 40) C hP gl_Strip_17 rfl rfl rfl d_Strip_writeRounded_22 ?_
    refine lv_bipush (v := (10 : Int32)) hx hb d_Strip_writeRounded_25 (by decide) ?_
    obtain ⟨q27, hq27, hM⟩ := gb_some hM
    refine g_backV (g_runS (As := [.ref (ρ 40), .int (10 : Int32)]) C hP (c_Wide_multiply C.2.2.2.2.2.2.2.2.1 hq27) gi_Wide_multiply gm_Strip_32 rfl (by decide) (by decide) hl.1 rfl (Nat.le_of_ble_eq_true rfl) d_Strip_writeRounded_27) hS (fun H locs hP hS => ?_)
    refine lv_aload_n hx hb d_Strip_writeRounded_30 rfl (lv_at hl 0 rfl) ?_
    obtain ⟨q31, hq31, hM⟩ := gb_some hM
    refine g_backV (g_runV (As := []) C hP (c_Strip_writeNextDigit C.2.2.2.2.2.2.2.2.1 hq31) gi_Strip_writeNextDigit gm_Strip_63 rfl rfl (by decide) (by decide) hl.1 rfl (Nat.le_of_ble_eq_true rfl) d_Strip_writeRounded_31) hS (fun H locs hP hS => ?_)
    refine lv_iinc (k := 2) (v := x2 + (1 : Int32)) (lv' := [(2, .int (x2 + (1 : Int32))), (0, .ref (ρ 38)), (1, .int x1)]) hx hb d_Strip_writeRounded_34 hl rfl (congrArg (fun z => x2 + z) (by decide)) (by decide) rfl (fun ls hl => ?_)
    refine lv_goto (tgt := 16) hx hb d_Strip_writeRounded_37 (by decide) ?_
    exact hN _ _ _ (Option.some.inj hM).symm ls H locs (lv_sub hl [1, 2, 0] rfl) hP hS
noncomputable def M_Strip_writeRounded_L16 : (Int32 × Int32 × gSt) → Option ((Int32 × Int32 × gSt) ⊕ ((gSt))) := fun x => M_Strip_writeRounded_b16 x.1 x.2.1 x.2.2
theorem t_Strip_writeRounded_L16 (C : gX "TermDesk$Strip" prog_9_method_8_code 4 none 2 45 R cells slots cy D ρ A p s m args meth c) {x1 : Int32} {x2 : Int32} {u : gSt} {yy : (gSt)} (hL : gLp M_Strip_writeRounded_L16 (x1, x2, u) = some yy) (hE0 : (∀ y', yy = y' → gAt p l e R s m args below meth c Q H0 cells slots cy D ρ A 4 40 [(0, .ref (ρ 38))] [] (y'))) : gAt p l e R s m args below meth c Q H0 cells slots cy D ρ A 4 16 [(0, .ref (ρ 38)), (1, .int x1), (2, .int x2)] [] u :=
  g_loop (f := M_Strip_writeRounded_L16) (P := fun x => gAt p l e R s m args below meth c Q H0 cells slots cy D ρ A 4 16 [(0, .ref (ρ 38)), (1, .int x.1), (2, .int x.2.1)] [] x.2.2) (E := fun yy => (∀ y', yy = y' → gAt p l e R s m args below meth c Q H0 cells slots cy D ρ A 4 40 [(0, .ref (ρ 38))] [] (y'))) (fun x z hf hN hE => t_Strip_writeRounded_b16 C hf (fun x1' x2' u' h => hN (x1', x2', u') h) (fun u' h => (hE _ h) u' rfl)) hL hE0
noncomputable def M_Strip_writeRounded_b106 (u : gSt) : Option (gSt) :=
  some u
set_option maxHeartbeats 4000000 in
set_option maxRecDepth 100000 in
theorem t_Strip_writeRounded_b106 (C : gX "TermDesk$Strip" prog_9_method_8_code 4 none 2 45 R cells slots cy D ρ A p s m args meth c) {u : gSt} {z : gSt} (hM : M_Strip_writeRounded_b106 u = some z) (hR : gRtV p l e R s m args below meth c Q H0 cells slots cy D ρ A prog_9_method_8_code z) : gAt p l e R s m args below meth c Q H0 cells slots cy D ρ A 4 106 [] [] u := by
  intro ls H locs hl hP hS
  have hx := C.1
  have hb := C.2.1
  unfold M_Strip_writeRounded_b106 at hM
  obtain rfl := Option.some.inj hM
  exact hR _ ls H locs d_Strip_writeRounded_106 hP hS
noncomputable def M_Strip_writeRounded_b102 (u : gSt) : Option (gSt) :=
  (M_Strip_raiseLastDigit u).bind fun q103 =>
  M_Strip_writeRounded_b106 q103
set_option maxHeartbeats 4000000 in
set_option maxRecDepth 100000 in
theorem t_Strip_writeRounded_b102 (C : gX "TermDesk$Strip" prog_9_method_8_code 4 none 2 45 R cells slots cy D ρ A p s m args meth c) {u : gSt} {z : gSt} (hM : M_Strip_writeRounded_b102 u = some z) (hR : gRtV p l e R s m args below meth c Q H0 cells slots cy D ρ A prog_9_method_8_code z) : gAt p l e R s m args below meth c Q H0 cells slots cy D ρ A 4 102 [(0, .ref (ρ 38))] [] u := by
  intro ls H locs hl hP hS
  have hx := C.1
  have hb := C.2.1
  unfold M_Strip_writeRounded_b102 at hM
  refine lv_aload_n hx hb d_Strip_writeRounded_102 rfl (lv_at hl 0 rfl) ?_
  obtain ⟨q103, hq103, hM⟩ := gb_some hM
  refine g_backV (g_runV (As := []) C hP (c_Strip_raiseLastDigit C.2.2.2.2.2.2.2.2.1 hq103) gi_Strip_raiseLastDigit gm_Strip_66 rfl rfl (by decide) (by decide) hl.1 rfl (Nat.le_of_ble_eq_true rfl) d_Strip_writeRounded_103) hS (fun H locs hP hS => ?_)
  exact t_Strip_writeRounded_b106 C hM hR ls H locs (lv_sub hl [] rfl) hP hS
noncomputable def M_Strip_writeRounded_b89 (x2 : Int32) (s0 : Int32) (u : gSt) : Option (gSt) :=
  if (0 : Int32) < x2 then
    (M_Strip_writeRounded_b102 u)
  else
    (if x2 = (0 : Int32) then
      (if s0 = (0 : Int32) then
        (M_Strip_writeRounded_b106 u)
      else
        (M_Strip_writeRounded_b102 u))
    else
      (M_Strip_writeRounded_b106 u))
set_option maxHeartbeats 4000000 in
set_option maxRecDepth 100000 in
theorem t_Strip_writeRounded_b89 (C : gX "TermDesk$Strip" prog_9_method_8_code 4 none 2 45 R cells slots cy D ρ A p s m args meth c) {x2 : Int32} {s0 : Int32} {u : gSt} {z : gSt} (hM : M_Strip_writeRounded_b89 x2 s0 u = some z) (hR : gRtV p l e R s m args below meth c Q H0 cells slots cy D ρ A prog_9_method_8_code z) : gAt p l e R s m args below meth c Q H0 cells slots cy D ρ A 4 89 [(0, .ref (ρ 38)), (2, .int x2)] [.int s0] u := by
  intro ls H locs hl hP hS
  have hx := C.1
  have hb := C.2.1
  unfold M_Strip_writeRounded_b89 at hM
  refine lv_istore_n (lv' := [(3, .int s0), (0, .ref (ρ 38)), (2, .int x2)]) hx hb d_Strip_writeRounded_89 rfl hl (by decide) rfl (fun ls hl => ?_)
  refine lv_iload_n hx hb d_Strip_writeRounded_90 rfl (lv_at hl 2 rfl) ?_
  refine lv_if_gt (tgt := 102) hx hb d_Strip_writeRounded_91 (by decide) (fun hc91 => ?_) (fun hc91 => ?_)
  · replace hM := gi_t hc91 hM
    exact t_Strip_writeRounded_b102 C hM hR ls H locs (lv_sub hl [1] rfl) hP hS
  · replace hM := gi_f hc91 hM
    refine lv_iload_n hx hb d_Strip_writeRounded_94 rfl (lv_at hl 2 rfl) ?_
    refine lv_if_ne (tgt := 106) hx hb d_Strip_writeRounded_95 (by decide) (fun hc95 => ?_) (fun hc95 => ?_)
    · replace hM := gi_f hc95 hM
      exact t_Strip_writeRounded_b106 C hM hR ls H locs (lv_sub hl [] rfl) hP hS
    · replace hM := gi_t hc95 hM
      refine lv_iload_n hx hb d_Strip_writeRounded_98 rfl (lv_at hl 0 rfl) ?_
      refine lv_if_eq (tgt := 106) hx hb d_Strip_writeRounded_99 (by decide) (fun hc99 => ?_) (fun hc99 => ?_)
      · replace hM := gi_t hc99 hM
        exact t_Strip_writeRounded_b106 C hM hR ls H locs (lv_sub hl [] rfl) hP hS
      · replace hM := gi_f hc99 hM
        exact t_Strip_writeRounded_b102 C hM hR ls H locs (lv_sub hl [1] rfl) hP hS
noncomputable def M_Strip_writeRounded_b88 (x2 : Int32) (u : gSt) : Option (gSt) :=
  M_Strip_writeRounded_b89 x2 (0 : Int32) u
set_option maxHeartbeats 4000000 in
set_option maxRecDepth 100000 in
theorem t_Strip_writeRounded_b88 (C : gX "TermDesk$Strip" prog_9_method_8_code 4 none 2 45 R cells slots cy D ρ A p s m args meth c) {x2 : Int32} {u : gSt} {z : gSt} (hM : M_Strip_writeRounded_b88 x2 u = some z) (hR : gRtV p l e R s m args below meth c Q H0 cells slots cy D ρ A prog_9_method_8_code z) : gAt p l e R s m args below meth c Q H0 cells slots cy D ρ A 4 88 [(0, .ref (ρ 38)), (2, .int x2)] [] u := by
  intro ls H locs hl hP hS
  have hx := C.1
  have hb := C.2.1
  unfold M_Strip_writeRounded_b88 at hM
  refine lv_iconst (v := (0 : Int32)) hx hb d_Strip_writeRounded_88 (by decide) ?_
  exact t_Strip_writeRounded_b89 C hM hR ls H locs (lv_sub hl [0, 1] rfl) hP hS
noncomputable def M_Strip_writeRounded_b14 (x1 : Int32) (u : gSt) : Option (gSt) :=
  (gLp M_Strip_writeRounded_L16 (x1, (0 : Int32), u)).bind fun y16 =>
  (M_Wide_multiply 40 (2 : Int32) y16).bind fun q45 =>
  (M_Wide_compare 40 41 q45).bind fun q56 =>
  if (q56.2.1 38 3) ≤ (0 : Int32) then
    (M_Strip_writeRounded_b88 q56.1 q56.2)
  else
    (gc (gIn ((q56.2.1 38 3) - (1 : Int32)) (gLen 39)) <| if ((q56.2.2.2.1 39 (gIx ((q56.2.1 38 3) - (1 : Int32)))) - (q56.2.2.2.1 39 (gIx ((q56.2.1 38 3) - (1 : Int32)))) / (2 : Int32) * (2 : Int32)) = (1 : Int32) then
      (M_Strip_writeRounded_b89 q56.1 (1 : Int32) q56.2)
    else
      (M_Strip_writeRounded_b88 q56.1 q56.2))
set_option maxHeartbeats 4000000 in
set_option maxRecDepth 100000 in
theorem t_Strip_writeRounded_b14 (C : gX "TermDesk$Strip" prog_9_method_8_code 4 none 2 45 R cells slots cy D ρ A p s m args meth c) {x1 : Int32} {u : gSt} {z : gSt} (hM : M_Strip_writeRounded_b14 x1 u = some z) (hR : gRtV p l e R s m args below meth c Q H0 cells slots cy D ρ A prog_9_method_8_code z) : gAt p l e R s m args below meth c Q H0 cells slots cy D ρ A 4 14 [(0, .ref (ρ 38)), (1, .int x1)] [] u := by
  intro ls H locs hl hP hS
  have hx := C.1
  have hb := C.2.1
  unfold M_Strip_writeRounded_b14 at hM
  refine lv_iconst (v := (0 : Int32)) hx hb d_Strip_writeRounded_14 (by decide) ?_
  refine lv_istore_n (lv' := [(2, .int (0 : Int32)), (0, .ref (ρ 38)), (1, .int x1)]) hx hb d_Strip_writeRounded_15 rfl hl (by decide) rfl (fun ls hl => ?_)
  obtain ⟨y16, hL16, hM⟩ := gb_some hM
  refine t_Strip_writeRounded_L16 C hL16 (fun y16_0 hy => ?_) ls H locs (lv_sub hl [1, 2, 0] rfl) hP hS
  · subst hy
    intro ls H locs hl hP hS
    refine lv_aload_n hx hb d_Strip_writeRounded_40 rfl (lv_at hl 0 rfl) ?_
    refine g_getR (b := 40) C hP gl_Strip_17 rfl rfl rfl d_Strip_writeRounded_41 ?_
    refine lv_iconst (v := (2 : Int32)) hx hb d_Strip_writeRounded_44 (by decide) ?_
    obtain ⟨q45, hq45, hM⟩ := gb_some hM
    refine g_backV (g_runS (As := [.ref (ρ 40), .int (2 : Int32)]) C hP (c_Wide_multiply C.2.2.2.2.2.2.2.2.1 hq45) gi_Wide_multiply gm_Strip_32 rfl (by decide) (by decide) hl.1 rfl (Nat.le_of_ble_eq_true rfl) d_Strip_writeRounded_45) hS (fun H locs hP hS => ?_)
    refine lv_aload_n hx hb d_Strip_writeRounded_48 rfl (lv_at hl 0 rfl) ?_
    refine g_getR (b := 40) C hP gl_Strip_17 rfl rfl rfl d_Strip_writeRounded_49 ?_
    refine lv_aload_n hx hb d_Strip_writeRounded_52 rfl (lv_at hl 0 rfl) ?_
    refine g_getR (b := 41) C hP gl_Strip_21 rfl rfl rfl d_Strip_writeRounded_53 ?_
    obtain ⟨q56, hq56, hM⟩ := gb_some hM
    refine g_backI (g_runS (As := [.ref (ρ 40), .ref (ρ 41)]) C hP (c_Wide_compare C.2.2.2.2.2.2.2.2.1 hq56) gi_Wide_compare gm_Strip_39 rfl (by decide) (by decide) hl.1 rfl (Nat.le_of_ble_eq_true rfl) d_Strip_writeRounded_56) hS (fun H locs hP hS => ?_)
    refine lv_istore_n (lv' := [(2, .int q56.1), (0, .ref (ρ 38))]) hx hb d_Strip_writeRounded_59 rfl hl (by decide) rfl (fun ls hl => ?_)
    refine lv_aload_n hx hb d_Strip_writeRounded_60 rfl (lv_at hl 1 rfl) ?_
    refine g_getI C hP gl_Strip_24 rfl rfl d_Strip_writeRounded_61 ?_
    refine lv_if_le (tgt := 88) hx hb d_Strip_writeRounded_64 (by decide) (fun hc64 => ?_) (fun hc64 => ?_)
    · replace hM := gi_t hc64 hM
      exact t_Strip_writeRounded_b88 C hM hR ls H locs (lv_sub hl [1, 0] rfl) hP hS
    · replace hM := gi_f hc64 hM
      refine lv_aload_n hx hb d_Strip_writeRounded_67 rfl (lv_at hl 1 rfl) ?_
      refine g_getR (b := 39) C hP gl_Strip_9 rfl rfl rfl d_Strip_writeRounded_68 ?_
      refine lv_aload_n hx hb d_Strip_writeRounded_71 rfl (lv_at hl 1 rfl) ?_
      refine g_getI C hP gl_Strip_24 rfl rfl d_Strip_writeRounded_72 ?_
      refine lv_iconst (v := (1 : Int32)) hx hb d_Strip_writeRounded_75 (by decide) ?_
      refine lv_isub hx hb d_Strip_writeRounded_76 ?_
      obtain ⟨hi77, hM⟩ := gc_some hM
      refine g_cald C hP rfl hi77 d_Strip_writeRounded_77 ?_
      refine lv_iconst (v := (2 : Int32)) hx hb d_Strip_writeRounded_78 (by decide) ?_
      refine lv_irem hx hb d_Strip_writeRounded_79 (by decide) ?_
      refine lv_iconst (v := (1 : Int32)) hx hb d_Strip_writeRounded_80 (by decide) ?_
      refine lv_icmp_ne (tgt := 88) hx hb d_Strip_writeRounded_81 (by decide) (fun hc81 => ?_) (fun hc81 => ?_)
      · replace hM := gi_f hc81 hM
        exact t_Strip_writeRounded_b88 C hM hR ls H locs (lv_sub hl [1, 0] rfl) hP hS
      · replace hM := gi_t hc81 hM
        refine lv_iconst (v := (1 : Int32)) hx hb d_Strip_writeRounded_84 (by decide) ?_
        refine lv_goto (tgt := 89) hx hb d_Strip_writeRounded_85 (by decide) ?_
        exact t_Strip_writeRounded_b89 C hM hR ls H locs (lv_sub hl [1, 0] rfl) hP hS
noncomputable def M_Strip_writeRounded (x1 : Int32) (u : gSt) : Option (gSt) :=
  (M_Strip_writeNextDigit u).bind fun q1 =>
  if x1 ≤ (0 : Int32) then
    (M_Strip_writeRounded_b14 x1 q1)
  else
    ((M_Strip_write (46 : Int32) q1).bind fun q11 =>
    M_Strip_writeRounded_b14 x1 q11)
set_option maxHeartbeats 4000000 in
set_option maxRecDepth 100000 in
theorem t_Strip_writeRounded (C : gX "TermDesk$Strip" prog_9_method_8_code 4 none 2 45 R cells slots cy D ρ A p s m args meth c) {x1 : Int32} {u : gSt} {z : gSt} (hM : M_Strip_writeRounded x1 u = some z) (hR : gRtV p l e R s m args below meth c Q H0 cells slots cy D ρ A prog_9_method_8_code z) : gAt p l e R s m args below meth c Q H0 cells slots cy D ρ A 4 0 [(0, .ref (ρ 38)), (1, .int x1)] [] u := by
  intro ls H locs hl hP hS
  have hx := C.1
  have hb := C.2.1
  unfold M_Strip_writeRounded at hM
  refine lv_aload_n hx hb d_Strip_writeRounded_0 rfl (lv_at hl 0 rfl) ?_
  obtain ⟨q1, hq1, hM⟩ := gb_some hM
  refine g_backV (g_runV (As := []) C hP (c_Strip_writeNextDigit C.2.2.2.2.2.2.2.2.1 hq1) gi_Strip_writeNextDigit gm_Strip_63 rfl rfl (by decide) (by decide) hl.1 rfl (Nat.le_of_ble_eq_true rfl) d_Strip_writeRounded_1) hS (fun H locs hP hS => ?_)
  refine lv_iload_n hx hb d_Strip_writeRounded_4 rfl (lv_at hl 1 rfl) ?_
  refine lv_if_le (tgt := 14) hx hb d_Strip_writeRounded_5 (by decide) (fun hc5 => ?_) (fun hc5 => ?_)
  · replace hM := gi_t hc5 hM
    exact t_Strip_writeRounded_b14 C hM hR ls H locs (lv_sub hl [0, 1] rfl) hP hS
  · replace hM := gi_f hc5 hM
    refine lv_aload_n hx hb d_Strip_writeRounded_8 rfl (lv_at hl 0 rfl) ?_
    refine lv_bipush (v := (46 : Int32)) hx hb d_Strip_writeRounded_9 (by decide) ?_
    obtain ⟨q11, hq11, hM⟩ := gb_some hM
    refine g_backV (g_runV (As := [.int (46 : Int32)]) C hP (c_Strip_write C.2.2.2.2.2.2.2.2.1 hq11) gi_Strip_write gm_Strip_43 rfl rfl (by decide) (by decide) hl.1 rfl (Nat.le_of_ble_eq_true rfl) d_Strip_writeRounded_11) hS (fun H locs hP hS => ?_)
    exact t_Strip_writeRounded_b14 C hM hR ls H locs (lv_sub hl [0, 1] rfl) hP hS
theorem c_Strip_writeRounded {l : Launch} {cy : Nat → ClassId} {D : va_G} {ρ : Nat → Nat} {A : Nat → Prop} (hD : gD ρ A) {x1 : Int32} {u : gSt} {z : gSt} (hM : M_Strip_writeRounded x1 u = some z) : gCtV l y_Strip_writeRounded prog_9_method_8_code 4 none 2 45 cy D ρ A [.ref (ρ 38), .int x1] u z :=
  g_met (by decide) hD (Nat.le_of_ble_eq_true rfl) (fun p e s m below meth c ls X hl hP => t_Strip_writeRounded X hM (fun pc ls H locs hd hP hS => g_vret X hP hS hd) ls _ [] hl hP va_S.rf)
end
section
variable {p : Program} {l : Launch} {e : Env} {R : Room} {s : State} {m : MethodId} {args : Array Value} {below : List Frame} {meth : Method} {c : Code} {Q : State → Prop} {H0 : Heap} {cells slots : Nat} {cy : Nat → ClassId} {D : va_G} {ρ : Nat → Nat} {A : Nat → Prop}
def y_Strip_isCommon : MethodName := ⟨"TermDesk$Strip", "isCommon", "(I)Z"⟩
theorem gi_Strip_isCommon : gMi y_Strip_isCommon prog_9_method_6_code 2 (some .boolean) 1 7 := ⟨(gWs_at 990 (by decide +kernel) (by decide +kernel)), (gWs_at 989 (by decide +kernel) (by decide +kernel)), (gWs_at 61 (by decide +kernel) (by decide +kernel)), (gWs_at 124 (by decide +kernel) (by decide +kernel)), ⟨by decide +kernel, by decide +kernel, by decide +kernel⟩, _, _, rfl⟩
theorem gm_Strip_51 : gMk "TermDesk$Strip" 51 y_Strip_isCommon := Or.inl (gWs_at 987 (by decide +kernel) (by decide +kernel))
theorem d_Strip_isCommon_0 : decode prog_9_method_6_code 0 = .ok (.aload_n 0, 1) := by decide +kernel
theorem d_Strip_isCommon_1 : decode prog_9_method_6_code 1 = .ok (.getfield 21, 3) := by decide +kernel
theorem d_Strip_isCommon_4 : decode prog_9_method_6_code 4 = .ok (.iload_n 1, 1) := by decide +kernel
theorem d_Strip_isCommon_5 : decode prog_9_method_6_code 5 = .ok (.invokestatic 58, 3) := by decide +kernel
theorem d_Strip_isCommon_8 : decode prog_9_method_6_code 8 = .ok (.ifCond .eq 18, 3) := by decide +kernel
theorem d_Strip_isCommon_11 : decode prog_9_method_6_code 11 = .ok (.aload_n 0, 1) := by decide +kernel
theorem d_Strip_isCommon_12 : decode prog_9_method_6_code 12 = .ok (.getfield 17, 3) := by decide +kernel
theorem d_Strip_isCommon_15 : decode prog_9_method_6_code 15 = .ok (.iload_n 1, 1) := by decide +kernel
theorem d_Strip_isCommon_16 : decode prog_9_method_6_code 16 = .ok (.invokestatic 58, 3) := by decide +kernel
theorem d_Strip_isCommon_19 : decode prog_9_method_6_code 19 = .ok (.ifCond .eq 7, 3) := by decide +kernel
theorem d_Strip_isCommon_22 : decode prog_9_method_6_code 22 = .ok (.iconst 1, 1) := by decide +kernel
theorem d_Strip_isCommon_23 : decode prog_9_method_6_code 23 = .ok (.goto 4, 3) := by decide +kernel
theorem d_Strip_isCommon_26 : decode prog_9_method_6_code 26 = .ok (.iconst 0, 1) := by decide +kernel
theorem d_Strip_isCommon_27 : decode prog_9_method_6_code 27 = .ok (.ireturn, 1) := by decide +kernel
noncomputable def M_Strip_isCommon_b27 (s0 : Int32) (u : gSt) : Option ((Int32 × gSt)) :=
  gc (gZ s0) <| some (s0, u)
set_option maxHeartbeats 4000000 in
set_option maxRecDepth 100000 in
theorem t_Strip_isCommon_b27 (C : gX "TermDesk$Strip" prog_9_method_6_code 2 (some .boolean) 1 24 R cells slots cy D ρ A p s m args meth c) {s0 : Int32} {u : gSt} {z : (Int32 × gSt)} (hM : M_Strip_isCommon_b27 s0 u = some z) (hR : gRtZ p l e R s m args below meth c Q H0 cells slots cy D ρ A prog_9_method_6_code z.1 z.2) : gAt p l e R s m args below meth c Q H0 cells slots cy D ρ A 2 27 [] [.int s0] u := by
  intro ls H locs hl hP hS
  have hx := C.1
  have hb := C.2.1
  unfold M_Strip_isCommon_b27 at hM
  obtain ⟨hz27, hM⟩ := gc_some hM
  obtain rfl := Option.some.inj hM
  exact hR _ ls H locs hz27 d_Strip_isCommon_27 hP hS
noncomputable def M_Strip_isCommon_b26 (u : gSt) : Option ((Int32 × gSt)) :=
  M_Strip_isCommon_b27 (0 : Int32) u
set_option maxHeartbeats 4000000 in
set_option maxRecDepth 100000 in
theorem t_Strip_isCommon_b26 (C : gX "TermDesk$Strip" prog_9_method_6_code 2 (some .boolean) 1 24 R cells slots cy D ρ A p s m args meth c) {u : gSt} {z : (Int32 × gSt)} (hM : M_Strip_isCommon_b26 u = some z) (hR : gRtZ p l e R s m args below meth c Q H0 cells slots cy D ρ A prog_9_method_6_code z.1 z.2) : gAt p l e R s m args below meth c Q H0 cells slots cy D ρ A 2 26 [] [] u := by
  intro ls H locs hl hP hS
  have hx := C.1
  have hb := C.2.1
  unfold M_Strip_isCommon_b26 at hM
  refine lv_iconst (v := (0 : Int32)) hx hb d_Strip_isCommon_26 (by decide) ?_
  exact t_Strip_isCommon_b27 C hM hR ls H locs (lv_sub hl [] rfl) hP hS
noncomputable def M_Strip_isCommon (x1 : Int32) (u : gSt) : Option ((Int32 × gSt)) :=
  (M_Wide_isMultiple 41 x1 u).bind fun q5 =>
  if q5.1 = (0 : Int32) then
    (M_Strip_isCommon_b26 q5.2)
  else
    ((M_Wide_isMultiple 40 x1 q5.2).bind fun q16 =>
    if q16.1 = (0 : Int32) then
      (M_Strip_isCommon_b26 q16.2)
    else
      (M_Strip_isCommon_b27 (1 : Int32) q16.2))
set_option maxHeartbeats 4000000 in
set_option maxRecDepth 100000 in
theorem t_Strip_isCommon (C : gX "TermDesk$Strip" prog_9_method_6_code 2 (some .boolean) 1 24 R cells slots cy D ρ A p s m args meth c) {x1 : Int32} {u : gSt} {z : (Int32 × gSt)} (hM : M_Strip_isCommon x1 u = some z) (hR : gRtZ p l e R s m args below meth c Q H0 cells slots cy D ρ A prog_9_method_6_code z.1 z.2) : gAt p l e R s m args below meth c Q H0 cells slots cy D ρ A 2 0 [(0, .ref (ρ 38)), (1, .int x1)] [] u := by
  intro ls H locs hl hP hS
  have hx := C.1
  have hb := C.2.1
  unfold M_Strip_isCommon at hM
  refine lv_aload_n hx hb d_Strip_isCommon_0 rfl (lv_at hl 0 rfl) ?_
  refine g_getR (b := 41) C hP gl_Strip_21 rfl rfl rfl d_Strip_isCommon_1 ?_
  refine lv_iload_n hx hb d_Strip_isCommon_4 rfl (lv_at hl 1 rfl) ?_
  obtain ⟨q5, hq5, hM⟩ := gb_some hM
  refine g_backI (g_runS (As := [.ref (ρ 41), .int x1]) C hP (c_Wide_isMultiple C.2.2.2.2.2.2.2.2.1 hq5) gi_Wide_isMultiple gm_Strip_58 rfl (by decide) (by decide) hl.1 rfl (Nat.le_of_ble_eq_true rfl) d_Strip_isCommon_5) hS (fun H locs hP hS => ?_)
  refine lv_if_eq (tgt := 26) hx hb d_Strip_isCommon_8 (by decide) (fun hc8 => ?_) (fun hc8 => ?_)
  · replace hM := gi_t hc8 hM
    exact t_Strip_isCommon_b26 C hM hR ls H locs (lv_sub hl [] rfl) hP hS
  · replace hM := gi_f hc8 hM
    refine lv_aload_n hx hb d_Strip_isCommon_11 rfl (lv_at hl 0 rfl) ?_
    refine g_getR (b := 40) C hP gl_Strip_17 rfl rfl rfl d_Strip_isCommon_12 ?_
    refine lv_iload_n hx hb d_Strip_isCommon_15 rfl (lv_at hl 1 rfl) ?_
    obtain ⟨q16, hq16, hM⟩ := gb_some hM
    refine g_backI (g_runS (As := [.ref (ρ 40), .int x1]) C hP (c_Wide_isMultiple C.2.2.2.2.2.2.2.2.1 hq16) gi_Wide_isMultiple gm_Strip_58 rfl (by decide) (by decide) hl.1 rfl (Nat.le_of_ble_eq_true rfl) d_Strip_isCommon_16) hS (fun H locs hP hS => ?_)
    refine lv_if_eq (tgt := 26) hx hb d_Strip_isCommon_19 (by decide) (fun hc19 => ?_) (fun hc19 => ?_)
    · replace hM := gi_t hc19 hM
      exact t_Strip_isCommon_b26 C hM hR ls H locs (lv_sub hl [] rfl) hP hS
    · replace hM := gi_f hc19 hM
      refine lv_iconst (v := (1 : Int32)) hx hb d_Strip_isCommon_22 (by decide) ?_
      refine lv_goto (tgt := 27) hx hb d_Strip_isCommon_23 (by decide) ?_
      exact t_Strip_isCommon_b27 C hM hR ls H locs (lv_sub hl [] rfl) hP hS
theorem c_Strip_isCommon {l : Launch} {cy : Nat → ClassId} {D : va_G} {ρ : Nat → Nat} {A : Nat → Prop} (hD : gD ρ A) {x1 : Int32} {u : gSt} {z : (Int32 × gSt)} (hM : M_Strip_isCommon x1 u = some z) : gCtI l y_Strip_isCommon prog_9_method_6_code 2 (some .boolean) 1 24 cy D ρ A [.ref (ρ 38), .int x1] u z.1 z.2 :=
  g_met (by decide) hD (Nat.le_of_ble_eq_true rfl) (fun p e s m below meth c ls X hl hP => t_Strip_isCommon X hM (fun pc ls H locs hz hd hP hS => g_zret X hP hS hz hd) ls _ [] hl hP va_S.rf)
end
section
variable {p : Program} {l : Launch} {e : Env} {R : Room} {s : State} {m : MethodId} {args : Array Value} {below : List Frame} {meth : Method} {c : Code} {Q : State → Prop} {H0 : Heap} {cells slots : Nat} {cy : Nat → ClassId} {D : va_G} {ρ : Nat → Nat} {A : Nat → Prop}
def y_Strip_reduce : MethodName := ⟨"TermDesk$Strip", "reduce", "()V"⟩
theorem gi_Strip_reduce : gMi y_Strip_reduce prog_9_method_5_code 3 none 0 7 := ⟨(gWs_at 986 (by decide +kernel) (by decide +kernel)), (gWs_at 985 (by decide +kernel) (by decide +kernel)), (gWs_at 60 (by decide +kernel) (by decide +kernel)), (gWs_at 124 (by decide +kernel) (by decide +kernel)), ⟨by decide +kernel, by decide +kernel, by decide +kernel⟩, _, _, rfl⟩
theorem gm_Strip_36 : gMk "TermDesk$Strip" 36 y_Strip_reduce := Or.inl (gWs_at 983 (by decide +kernel) (by decide +kernel))
theorem d_Strip_reduce_0 : decode prog_9_method_5_code 0 = .ok (.iconst 2, 1) := by decide +kernel
theorem d_Strip_reduce_1 : decode prog_9_method_5_code 1 = .ok (.istore_n 1, 1) := by decide +kernel
theorem d_Strip_reduce_2 : decode prog_9_method_5_code 2 = .ok (.iload_n 1, 1) := by decide +kernel
theorem d_Strip_reduce_3 : decode prog_9_method_5_code 3 = .ok (.sipush 200, 3) := by decide +kernel
theorem d_Strip_reduce_6 : decode prog_9_method_5_code 6 = .ok (.if_icmp .gt 48, 3) := by decide +kernel
theorem d_Strip_reduce_9 : decode prog_9_method_5_code 9 = .ok (.iconst 0, 1) := by decide +kernel
theorem d_Strip_reduce_10 : decode prog_9_method_5_code 10 = .ok (.istore_n 2, 1) := by decide +kernel
theorem d_Strip_reduce_11 : decode prog_9_method_5_code 11 = .ok (.iload_n 2, 1) := by decide +kernel
theorem d_Strip_reduce_12 : decode prog_9_method_5_code 12 = .ok (.sipush 240, 3) := by decide +kernel
theorem d_Strip_reduce_15 : decode prog_9_method_5_code 15 = .ok (.if_icmp .ge 33, 3) := by decide +kernel
theorem d_Strip_reduce_18 : decode prog_9_method_5_code 18 = .ok (.aload_n 0, 1) := by decide +kernel
theorem d_Strip_reduce_19 : decode prog_9_method_5_code 19 = .ok (.iload_n 1, 1) := by decide +kernel
theorem d_Strip_reduce_20 : decode prog_9_method_5_code 20 = .ok (.invokevirtual 51, 3) := by decide +kernel
theorem d_Strip_reduce_23 : decode prog_9_method_5_code 23 = .ok (.ifCond .eq 25, 3) := by decide +kernel
theorem d_Strip_reduce_26 : decode prog_9_method_5_code 26 = .ok (.aload_n 0, 1) := by decide +kernel
theorem d_Strip_reduce_27 : decode prog_9_method_5_code 27 = .ok (.getfield 17, 3) := by decide +kernel
theorem d_Strip_reduce_30 : decode prog_9_method_5_code 30 = .ok (.iload_n 1, 1) := by decide +kernel
theorem d_Strip_reduce_31 : decode prog_9_method_5_code 31 = .ok (.invokestatic 55, 3) := by decide +kernel
theorem d_Strip_reduce_34 : decode prog_9_method_5_code 34 = .ok (.aload_n 0, 1) := by decide +kernel
theorem d_Strip_reduce_35 : decode prog_9_method_5_code 35 = .ok (.getfield 21, 3) := by decide +kernel
theorem d_Strip_reduce_38 : decode prog_9_method_5_code 38 = .ok (.iload_n 1, 1) := by decide +kernel
theorem d_Strip_reduce_39 : decode prog_9_method_5_code 39 = .ok (.invokestatic 55, 3) := by decide +kernel
theorem d_Strip_reduce_42 : decode prog_9_method_5_code 42 = .ok (.iinc 2 1, 3) := by decide +kernel
theorem d_Strip_reduce_45 : decode prog_9_method_5_code 45 = .ok (.goto (-34), 3) := by decide +kernel
theorem d_Strip_reduce_48 : decode prog_9_method_5_code 48 = .ok (.iinc 1 1, 3) := by decide +kernel
theorem d_Strip_reduce_51 : decode prog_9_method_5_code 51 = .ok (.goto (-49), 3) := by decide +kernel
theorem d_Strip_reduce_54 : decode prog_9_method_5_code 54 = .ok (.return_, 1) := by decide +kernel
noncomputable def M_Strip_reduce_b11 (x1 : Int32) (x2 : Int32) (u : gSt) : Option ((Int32 × Int32 × gSt) ⊕ ((Int32 × gSt))) :=
  if (240 : Int32) ≤ x2 then
    (some (.inr (x1, u)))
  else
    ((M_Strip_isCommon x1 u).bind fun q20 =>
    if q20.1 = (0 : Int32) then
      (some (.inr (x1, q20.2)))
    else
      ((M_Wide_divide 40 x1 q20.2).bind fun q31 =>
      (M_Wide_divide 41 x1 q31).bind fun q39 =>
      some (.inl (x1, x2 + (1 : Int32), q39))))
set_option maxHeartbeats 4000000 in
set_option maxRecDepth 100000 in
theorem t_Strip_reduce_b11 (C : gX "TermDesk$Strip" prog_9_method_5_code 3 none 2 45 R cells slots cy D ρ A p s m args meth c) {x1 : Int32} {x2 : Int32} {u : gSt} {z : (Int32 × Int32 × gSt) ⊕ ((Int32 × gSt))} (hM : M_Strip_reduce_b11 x1 x2 u = some z) (hN : ∀ x1' x2' u', z = .inl (x1', x2', u') → gAt p l e R s m args below meth c Q H0 cells slots cy D ρ A 3 11 [(0, .ref (ρ 38)), (1, .int (x1')), (2, .int (x2'))] [] (u')) (hE0 : ∀ x1' u', z = .inr (x1', u') → gAt p l e R s m args below meth c Q H0 cells slots cy D ρ A 3 48 [(0, .ref (ρ 38)), (1, .int (x1'))] [] (u')) : gAt p l e R s m args below meth c Q H0 cells slots cy D ρ A 3 11 [(0, .ref (ρ 38)), (1, .int x1), (2, .int x2)] [] u := by
  intro ls H locs hl hP hS
  have hx := C.1
  have hb := C.2.1
  unfold M_Strip_reduce_b11 at hM
  refine lv_iload_n hx hb d_Strip_reduce_11 rfl (lv_at hl 2 rfl) ?_
  refine lv_sipush (v := (240 : Int32)) hx hb d_Strip_reduce_12 (by decide) ?_
  refine lv_icmp_ge (tgt := 48) hx hb d_Strip_reduce_15 (by decide) (fun hc15 => ?_) (fun hc15 => ?_)
  · replace hM := gi_t hc15 hM
    exact hE0 _ _ (Option.some.inj hM).symm ls H locs (lv_sub hl [0, 1] rfl) hP hS
  · replace hM := gi_f hc15 hM
    refine lv_aload_n hx hb d_Strip_reduce_18 rfl (lv_at hl 0 rfl) ?_
    refine lv_iload_n hx hb d_Strip_reduce_19 rfl (lv_at hl 1 rfl) ?_
    obtain ⟨q20, hq20, hM⟩ := gb_some hM
    refine g_backI (g_runV (As := [.int x1]) C hP (c_Strip_isCommon C.2.2.2.2.2.2.2.2.1 hq20) gi_Strip_isCommon gm_Strip_51 rfl rfl (by decide) (by decide) hl.1 rfl (Nat.le_of_ble_eq_true rfl) d_Strip_reduce_20) hS (fun H locs hP hS => ?_)
    refine lv_if_eq (tgt := 48) hx hb d_Strip_reduce_23 (by decide) (fun hc23 => ?_) (fun hc23 => ?_)
    · replace hM := gi_t hc23 hM
      exact hE0 _ _ (Option.some.inj hM).symm ls H locs (lv_sub hl [0, 1] rfl) hP hS
    · replace hM := gi_f hc23 hM
      refine lv_aload_n hx hb d_Strip_reduce_26 rfl (lv_at hl 0 rfl) ?_
      refine g_getR (b := 40) C hP gl_Strip_17 rfl rfl rfl d_Strip_reduce_27 ?_
      refine lv_iload_n hx hb d_Strip_reduce_30 rfl (lv_at hl 1 rfl) ?_
      obtain ⟨q31, hq31, hM⟩ := gb_some hM
      refine g_backV (g_runS (As := [.ref (ρ 40), .int x1]) C hP (c_Wide_divide C.2.2.2.2.2.2.2.2.1 hq31) gi_Wide_divide gm_Strip_55 rfl (by decide) (by decide) hl.1 rfl (Nat.le_of_ble_eq_true rfl) d_Strip_reduce_31) hS (fun H locs hP hS => ?_)
      refine lv_aload_n hx hb d_Strip_reduce_34 rfl (lv_at hl 0 rfl) ?_
      refine g_getR (b := 41) C hP gl_Strip_21 rfl rfl rfl d_Strip_reduce_35 ?_
      refine lv_iload_n hx hb d_Strip_reduce_38 rfl (lv_at hl 1 rfl) ?_
      obtain ⟨q39, hq39, hM⟩ := gb_some hM
      refine g_backV (g_runS (As := [.ref (ρ 41), .int x1]) C hP (c_Wide_divide C.2.2.2.2.2.2.2.2.1 hq39) gi_Wide_divide gm_Strip_55 rfl (by decide) (by decide) hl.1 rfl (Nat.le_of_ble_eq_true rfl) d_Strip_reduce_39) hS (fun H locs hP hS => ?_)
      refine lv_iinc (k := 2) (v := x2 + (1 : Int32)) (lv' := [(2, .int (x2 + (1 : Int32))), (0, .ref (ρ 38)), (1, .int x1)]) hx hb d_Strip_reduce_42 hl rfl (congrArg (fun z => x2 + z) (by decide)) (by decide) rfl (fun ls hl => ?_)
      refine lv_goto (tgt := 11) hx hb d_Strip_reduce_45 (by decide) ?_
      exact hN _ _ _ (Option.some.inj hM).symm ls H locs (lv_sub hl [1, 2, 0] rfl) hP hS
noncomputable def M_Strip_reduce_L11 : (Int32 × Int32 × gSt) → Option ((Int32 × Int32 × gSt) ⊕ ((Int32 × gSt))) := fun x => M_Strip_reduce_b11 x.1 x.2.1 x.2.2
theorem t_Strip_reduce_L11 (C : gX "TermDesk$Strip" prog_9_method_5_code 3 none 2 45 R cells slots cy D ρ A p s m args meth c) {x1 : Int32} {x2 : Int32} {u : gSt} {yy : (Int32 × gSt)} (hL : gLp M_Strip_reduce_L11 (x1, x2, u) = some yy) (hE0 : (∀ y', yy = y' → gAt p l e R s m args below meth c Q H0 cells slots cy D ρ A 3 48 [(0, .ref (ρ 38)), (1, .int (y'.1))] [] (y'.2))) : gAt p l e R s m args below meth c Q H0 cells slots cy D ρ A 3 11 [(0, .ref (ρ 38)), (1, .int x1), (2, .int x2)] [] u :=
  g_loop (f := M_Strip_reduce_L11) (P := fun x => gAt p l e R s m args below meth c Q H0 cells slots cy D ρ A 3 11 [(0, .ref (ρ 38)), (1, .int x.1), (2, .int x.2.1)] [] x.2.2) (E := fun yy => (∀ y', yy = y' → gAt p l e R s m args below meth c Q H0 cells slots cy D ρ A 3 48 [(0, .ref (ρ 38)), (1, .int (y'.1))] [] (y'.2))) (fun x z hf hN hE => t_Strip_reduce_b11 C hf (fun x1' x2' u' h => hN (x1', x2', u') h) (fun x1' u' h => (hE _ h) (x1', u') rfl)) hL hE0
noncomputable def M_Strip_reduce_b2 (x1 : Int32) (u : gSt) : Option ((Int32 × gSt) ⊕ ((gSt))) :=
  if (200 : Int32) < x1 then
    (some (.inr u))
  else
    ((gLp M_Strip_reduce_L11 (x1, (0 : Int32), u)).bind fun y11 =>
    some (.inl (y11.1 + (1 : Int32), y11.2)))
set_option maxHeartbeats 4000000 in
set_option maxRecDepth 100000 in
theorem t_Strip_reduce_b2 (C : gX "TermDesk$Strip" prog_9_method_5_code 3 none 2 45 R cells slots cy D ρ A p s m args meth c) {x1 : Int32} {u : gSt} {z : (Int32 × gSt) ⊕ ((gSt))} (hM : M_Strip_reduce_b2 x1 u = some z) (hN : ∀ x1' u', z = .inl (x1', u') → gAt p l e R s m args below meth c Q H0 cells slots cy D ρ A 3 2 [(0, .ref (ρ 38)), (1, .int (x1'))] [] (u')) (hE0 : ∀ u', z = .inr u' → gAt p l e R s m args below meth c Q H0 cells slots cy D ρ A 3 54 [] [] (u')) : gAt p l e R s m args below meth c Q H0 cells slots cy D ρ A 3 2 [(0, .ref (ρ 38)), (1, .int x1)] [] u := by
  intro ls H locs hl hP hS
  have hx := C.1
  have hb := C.2.1
  unfold M_Strip_reduce_b2 at hM
  refine lv_iload_n hx hb d_Strip_reduce_2 rfl (lv_at hl 1 rfl) ?_
  refine lv_sipush (v := (200 : Int32)) hx hb d_Strip_reduce_3 (by decide) ?_
  refine lv_icmp_gt (tgt := 54) hx hb d_Strip_reduce_6 (by decide) (fun hc6 => ?_) (fun hc6 => ?_)
  · replace hM := gi_t hc6 hM
    exact hE0 _ (Option.some.inj hM).symm ls H locs (lv_sub hl [] rfl) hP hS
  · replace hM := gi_f hc6 hM
    refine lv_iconst (v := (0 : Int32)) hx hb d_Strip_reduce_9 (by decide) ?_
    refine lv_istore_n (lv' := [(2, .int (0 : Int32)), (0, .ref (ρ 38)), (1, .int x1)]) hx hb d_Strip_reduce_10 rfl hl (by decide) rfl (fun ls hl => ?_)
    obtain ⟨y11, hL11, hM⟩ := gb_some hM
    refine t_Strip_reduce_L11 C hL11 (fun y11_0 hy => ?_) ls H locs (lv_sub hl [1, 2, 0] rfl) hP hS
    · subst hy
      intro ls H locs hl hP hS
      refine lv_iinc (k := 1) (v := y11.1 + (1 : Int32)) (lv' := [(1, .int (y11.1 + (1 : Int32))), (0, .ref (ρ 38))]) hx hb d_Strip_reduce_48 hl rfl (congrArg (fun z => y11.1 + z) (by decide)) (by decide) rfl (fun ls hl => ?_)
      refine lv_goto (tgt := 2) hx hb d_Strip_reduce_51 (by decide) ?_
      exact hN _ _ (Option.some.inj hM).symm ls H locs (lv_sub hl [1, 0] rfl) hP hS
noncomputable def M_Strip_reduce_L2 : (Int32 × gSt) → Option ((Int32 × gSt) ⊕ ((gSt))) := fun x => M_Strip_reduce_b2 x.1 x.2
theorem t_Strip_reduce_L2 (C : gX "TermDesk$Strip" prog_9_method_5_code 3 none 2 45 R cells slots cy D ρ A p s m args meth c) {x1 : Int32} {u : gSt} {yy : (gSt)} (hL : gLp M_Strip_reduce_L2 (x1, u) = some yy) (hE0 : (∀ y', yy = y' → gAt p l e R s m args below meth c Q H0 cells slots cy D ρ A 3 54 [] [] (y'))) : gAt p l e R s m args below meth c Q H0 cells slots cy D ρ A 3 2 [(0, .ref (ρ 38)), (1, .int x1)] [] u :=
  g_loop (f := M_Strip_reduce_L2) (P := fun x => gAt p l e R s m args below meth c Q H0 cells slots cy D ρ A 3 2 [(0, .ref (ρ 38)), (1, .int x.1)] [] x.2) (E := fun yy => (∀ y', yy = y' → gAt p l e R s m args below meth c Q H0 cells slots cy D ρ A 3 54 [] [] (y'))) (fun x z hf hN hE => t_Strip_reduce_b2 C hf (fun x1' u' h => hN (x1', u') h) (fun u' h => (hE _ h) u' rfl)) hL hE0
noncomputable def M_Strip_reduce (u : gSt) : Option (gSt) :=
  (gLp M_Strip_reduce_L2 ((2 : Int32), u)).bind fun y2 =>
  some y2
set_option maxHeartbeats 4000000 in
set_option maxRecDepth 100000 in
theorem t_Strip_reduce (C : gX "TermDesk$Strip" prog_9_method_5_code 3 none 2 45 R cells slots cy D ρ A p s m args meth c) {u : gSt} {z : gSt} (hM : M_Strip_reduce u = some z) (hR : gRtV p l e R s m args below meth c Q H0 cells slots cy D ρ A prog_9_method_5_code z) : gAt p l e R s m args below meth c Q H0 cells slots cy D ρ A 3 0 [(0, .ref (ρ 38))] [] u := by
  intro ls H locs hl hP hS
  have hx := C.1
  have hb := C.2.1
  unfold M_Strip_reduce at hM
  refine lv_iconst (v := (2 : Int32)) hx hb d_Strip_reduce_0 (by decide) ?_
  refine lv_istore_n (lv' := [(1, .int (2 : Int32)), (0, .ref (ρ 38))]) hx hb d_Strip_reduce_1 rfl hl (by decide) rfl (fun ls hl => ?_)
  obtain ⟨y2, hL2, hM⟩ := gb_some hM
  refine t_Strip_reduce_L2 C hL2 (fun y2_0 hy => ?_) ls H locs (lv_sub hl [1, 0] rfl) hP hS
  · subst hy
    intro ls H locs hl hP hS
    obtain rfl := Option.some.inj hM
    exact hR _ ls H locs d_Strip_reduce_54 hP hS
theorem c_Strip_reduce {l : Launch} {cy : Nat → ClassId} {D : va_G} {ρ : Nat → Nat} {A : Nat → Prop} (hD : gD ρ A) {u : gSt} {z : gSt} (hM : M_Strip_reduce u = some z) : gCtV l y_Strip_reduce prog_9_method_5_code 3 none 2 45 cy D ρ A [.ref (ρ 38)] u z :=
  g_met (by decide) hD (Nat.le_of_ble_eq_true rfl) (fun p e s m below meth c ls X hl hP => t_Strip_reduce X hM (fun pc ls H locs hd hP hS => g_vret X hP hS hd) ls _ [] hl hP va_S.rf)
end
section
variable {p : Program} {l : Launch} {e : Env} {R : Room} {s : State} {m : MethodId} {args : Array Value} {below : List Frame} {meth : Method} {c : Code} {Q : State → Prop} {H0 : Heap} {cells slots : Nat} {cy : Nat → ClassId} {D : va_G} {ρ : Nat → Nat} {A : Nat → Prop}
def y_Strip_writeWhole : MethodName := ⟨"TermDesk$Strip", "writeWhole", "([I)V"⟩
theorem gi_Strip_writeWhole : gMi y_Strip_writeWhole prog_9_method_7_code 7 none 1 7 := ⟨(gWs_at 1003 (by decide +kernel) (by decide +kernel)), (gWs_at 1002 (by decide +kernel) (by decide +kernel)), (gWs_at 63 (by decide +kernel) (by decide +kernel)), (gWs_at 124 (by decide +kernel) (by decide +kernel)), ⟨by decide +kernel, by decide +kernel, by decide +kernel⟩, _, _, rfl⟩
theorem gm_Strip_47 : gMk "TermDesk$Strip" 47 y_Strip_writeWhole := Or.inl (gWs_at 1000 (by decide +kernel) (by decide +kernel))
theorem d_Strip_writeWhole_0 : decode prog_9_method_7_code 0 = .ok (.iconst 0, 1) := by decide +kernel
theorem d_Strip_writeWhole_1 : decode prog_9_method_7_code 1 = .ok (.istore_n 2, 1) := by decide +kernel
theorem d_Strip_writeWhole_2 : decode prog_9_method_7_code 2 = .ok (.bipush 7, 2) := by decide +kernel
theorem d_Strip_writeWhole_4 : decode prog_9_method_7_code 4 = .ok (.istore_n 3, 1) := by decide +kernel
theorem d_Strip_writeWhole_5 : decode prog_9_method_7_code 5 = .ok (.iload_n 3, 1) := by decide +kernel
theorem d_Strip_writeWhole_6 : decode prog_9_method_7_code 6 = .ok (.ifCond .lt 85, 3) := by decide +kernel
theorem d_Strip_writeWhole_9 : decode prog_9_method_7_code 9 = .ok (.ldc 62, 2) := by decide +kernel
theorem d_Strip_writeWhole_11 : decode prog_9_method_7_code 11 = .ok (.istore 4, 2) := by decide +kernel
theorem d_Strip_writeWhole_13 : decode prog_9_method_7_code 13 = .ok (.iconst 0, 1) := by decide +kernel
theorem d_Strip_writeWhole_14 : decode prog_9_method_7_code 14 = .ok (.istore 5, 2) := by decide +kernel
theorem d_Strip_writeWhole_16 : decode prog_9_method_7_code 16 = .ok (.iload 5, 2) := by decide +kernel
theorem d_Strip_writeWhole_18 : decode prog_9_method_7_code 18 = .ok (.bipush 9, 2) := by decide +kernel
theorem d_Strip_writeWhole_20 : decode prog_9_method_7_code 20 = .ok (.if_icmp .ge 65, 3) := by decide +kernel
theorem d_Strip_writeWhole_23 : decode prog_9_method_7_code 23 = .ok (.aload_n 1, 1) := by decide +kernel
theorem d_Strip_writeWhole_24 : decode prog_9_method_7_code 24 = .ok (.iload_n 3, 1) := by decide +kernel
theorem d_Strip_writeWhole_25 : decode prog_9_method_7_code 25 = .ok (.iaload, 1) := by decide +kernel
theorem d_Strip_writeWhole_26 : decode prog_9_method_7_code 26 = .ok (.iload 4, 2) := by decide +kernel
theorem d_Strip_writeWhole_28 : decode prog_9_method_7_code 28 = .ok (.idiv, 1) := by decide +kernel
theorem d_Strip_writeWhole_29 : decode prog_9_method_7_code 29 = .ok (.bipush 10, 2) := by decide +kernel
theorem d_Strip_writeWhole_31 : decode prog_9_method_7_code 31 = .ok (.irem, 1) := by decide +kernel
theorem d_Strip_writeWhole_32 : decode prog_9_method_7_code 32 = .ok (.istore 6, 2) := by decide +kernel
theorem d_Strip_writeWhole_34 : decode prog_9_method_7_code 34 = .ok (.iload 4, 2) := by decide +kernel
theorem d_Strip_writeWhole_36 : decode prog_9_method_7_code 36 = .ok (.iconst 1, 1) := by decide +kernel
theorem d_Strip_writeWhole_37 : decode prog_9_method_7_code 37 = .ok (.if_icmp .le 11, 3) := by decide +kernel
theorem d_Strip_writeWhole_40 : decode prog_9_method_7_code 40 = .ok (.iload 4, 2) := by decide +kernel
theorem d_Strip_writeWhole_42 : decode prog_9_method_7_code 42 = .ok (.bipush 10, 2) := by decide +kernel
theorem d_Strip_writeWhole_44 : decode prog_9_method_7_code 44 = .ok (.idiv, 1) := by decide +kernel
theorem d_Strip_writeWhole_45 : decode prog_9_method_7_code 45 = .ok (.goto 4, 3) := by decide +kernel
theorem d_Strip_writeWhole_48 : decode prog_9_method_7_code 48 = .ok (.iconst 1, 1) := by decide +kernel
theorem d_Strip_writeWhole_49 : decode prog_9_method_7_code 49 = .ok (.istore 4, 2) := by decide +kernel
theorem d_Strip_writeWhole_51 : decode prog_9_method_7_code 51 = .ok (.iload_n 2, 1) := by decide +kernel
theorem d_Strip_writeWhole_52 : decode prog_9_method_7_code 52 = .ok (.ifCond .ne 8, 3) := by decide +kernel
theorem d_Strip_writeWhole_55 : decode prog_9_method_7_code 55 = .ok (.iload 6, 2) := by decide +kernel
theorem d_Strip_writeWhole_57 : decode prog_9_method_7_code 57 = .ok (.ifCond .le 7, 3) := by decide +kernel
theorem d_Strip_writeWhole_60 : decode prog_9_method_7_code 60 = .ok (.iconst 1, 1) := by decide +kernel
theorem d_Strip_writeWhole_61 : decode prog_9_method_7_code 61 = .ok (.goto 4, 3) := by decide +kernel
theorem d_Strip_writeWhole_64 : decode prog_9_method_7_code 64 = .ok (.iconst 0, 1) := by decide +kernel
theorem d_Strip_writeWhole_65 : decode prog_9_method_7_code 65 = .ok (.istore_n 2, 1) := by decide +kernel
theorem d_Strip_writeWhole_66 : decode prog_9_method_7_code 66 = .ok (.iload_n 2, 1) := by decide +kernel
theorem d_Strip_writeWhole_67 : decode prog_9_method_7_code 67 = .ok (.ifCond .eq 12, 3) := by decide +kernel
theorem d_Strip_writeWhole_70 : decode prog_9_method_7_code 70 = .ok (.aload_n 0, 1) := by decide +kernel
theorem d_Strip_writeWhole_71 : decode prog_9_method_7_code 71 = .ok (.bipush 48, 2) := by decide +kernel
theorem d_Strip_writeWhole_73 : decode prog_9_method_7_code 73 = .ok (.iload 6, 2) := by decide +kernel
theorem d_Strip_writeWhole_75 : decode prog_9_method_7_code 75 = .ok (.iadd, 1) := by decide +kernel
theorem d_Strip_writeWhole_76 : decode prog_9_method_7_code 76 = .ok (.invokevirtual 43, 3) := by decide +kernel
theorem d_Strip_writeWhole_79 : decode prog_9_method_7_code 79 = .ok (.iinc 5 1, 3) := by decide +kernel
theorem d_Strip_writeWhole_82 : decode prog_9_method_7_code 82 = .ok (.goto (-66), 3) := by decide +kernel
theorem d_Strip_writeWhole_85 : decode prog_9_method_7_code 85 = .ok (.iinc 3 (-1), 3) := by decide +kernel
theorem d_Strip_writeWhole_88 : decode prog_9_method_7_code 88 = .ok (.goto (-83), 3) := by decide +kernel
theorem d_Strip_writeWhole_91 : decode prog_9_method_7_code 91 = .ok (.return_, 1) := by decide +kernel
noncomputable def M_Strip_writeWhole_b79 (a1 : Nat) (x2 : Int32) (x3 : Int32) (x4 : Int32) (x5 : Int32) (u : gSt) : Option ((Nat × Int32 × Int32 × Int32 × Int32 × gSt) ⊕ ((Nat × Int32 × Int32 × gSt))) :=
  some (.inl (a1, x2, x3, x4, x5 + (1 : Int32), u))
set_option maxHeartbeats 4000000 in
set_option maxRecDepth 100000 in
theorem t_Strip_writeWhole_b79 (C : gX "TermDesk$Strip" prog_9_method_7_code 7 none 1 21 R cells slots cy D ρ A p s m args meth c) {a1 : Nat} {x2 : Int32} {x3 : Int32} {x4 : Int32} {x5 : Int32} {u : gSt} {z : (Nat × Int32 × Int32 × Int32 × Int32 × gSt) ⊕ ((Nat × Int32 × Int32 × gSt))} (hM : M_Strip_writeWhole_b79 a1 x2 x3 x4 x5 u = some z) (hN : ∀ a1' x2' x3' x4' x5' u', z = .inl (a1', x2', x3', x4', x5', u') → gAt p l e R s m args below meth c Q H0 cells slots cy D ρ A 7 16 [(0, .ref (ρ 38)), (1, .ref (ρ (a1'))), (2, .int (x2')), (3, .int (x3')), (4, .int (x4')), (5, .int (x5'))] [] (u')) (hE0 : ∀ a1' x2' x3' u', z = .inr (a1', x2', x3', u') → gAt p l e R s m args below meth c Q H0 cells slots cy D ρ A 7 85 [(0, .ref (ρ 38)), (1, .ref (ρ (a1'))), (2, .int (x2')), (3, .int (x3'))] [] (u')) : gAt p l e R s m args below meth c Q H0 cells slots cy D ρ A 7 79 [(0, .ref (ρ 38)), (1, .ref (ρ a1)), (2, .int x2), (3, .int x3), (4, .int x4), (5, .int x5)] [] u := by
  intro ls H locs hl hP hS
  have hx := C.1
  have hb := C.2.1
  unfold M_Strip_writeWhole_b79 at hM
  refine lv_iinc (k := 5) (v := x5 + (1 : Int32)) (lv' := [(5, .int (x5 + (1 : Int32))), (0, .ref (ρ 38)), (1, .ref (ρ a1)), (2, .int x2), (3, .int x3), (4, .int x4)]) hx hb d_Strip_writeWhole_79 hl rfl (congrArg (fun z => x5 + z) (by decide)) (by decide) rfl (fun ls hl => ?_)
  refine lv_goto (tgt := 16) hx hb d_Strip_writeWhole_82 (by decide) ?_
  exact hN _ _ _ _ _ _ (Option.some.inj hM).symm ls H locs (lv_sub hl [1, 2, 3, 4, 5, 0] rfl) hP hS
noncomputable def M_Strip_writeWhole_b65 (a1 : Nat) (x3 : Int32) (x4 : Int32) (x5 : Int32) (x6 : Int32) (s0 : Int32) (u : gSt) : Option ((Nat × Int32 × Int32 × Int32 × Int32 × gSt) ⊕ ((Nat × Int32 × Int32 × gSt))) :=
  if s0 = (0 : Int32) then
    (M_Strip_writeWhole_b79 a1 s0 x3 x4 x5 u)
  else
    ((M_Strip_write ((48 : Int32) + x6) u).bind fun q76 =>
    M_Strip_writeWhole_b79 a1 s0 x3 x4 x5 q76)
set_option maxHeartbeats 4000000 in
set_option maxRecDepth 100000 in
theorem t_Strip_writeWhole_b65 (C : gX "TermDesk$Strip" prog_9_method_7_code 7 none 1 21 R cells slots cy D ρ A p s m args meth c) {a1 : Nat} {x3 : Int32} {x4 : Int32} {x5 : Int32} {x6 : Int32} {s0 : Int32} {u : gSt} {z : (Nat × Int32 × Int32 × Int32 × Int32 × gSt) ⊕ ((Nat × Int32 × Int32 × gSt))} (hM : M_Strip_writeWhole_b65 a1 x3 x4 x5 x6 s0 u = some z) (hN : ∀ a1' x2' x3' x4' x5' u', z = .inl (a1', x2', x3', x4', x5', u') → gAt p l e R s m args below meth c Q H0 cells slots cy D ρ A 7 16 [(0, .ref (ρ 38)), (1, .ref (ρ (a1'))), (2, .int (x2')), (3, .int (x3')), (4, .int (x4')), (5, .int (x5'))] [] (u')) (hE0 : ∀ a1' x2' x3' u', z = .inr (a1', x2', x3', u') → gAt p l e R s m args below meth c Q H0 cells slots cy D ρ A 7 85 [(0, .ref (ρ 38)), (1, .ref (ρ (a1'))), (2, .int (x2')), (3, .int (x3'))] [] (u')) : gAt p l e R s m args below meth c Q H0 cells slots cy D ρ A 7 65 [(0, .ref (ρ 38)), (1, .ref (ρ a1)), (3, .int x3), (4, .int x4), (5, .int x5), (6, .int x6)] [.int s0] u := by
  intro ls H locs hl hP hS
  have hx := C.1
  have hb := C.2.1
  unfold M_Strip_writeWhole_b65 at hM
  refine lv_istore_n (lv' := [(2, .int s0), (0, .ref (ρ 38)), (1, .ref (ρ a1)), (3, .int x3), (4, .int x4), (5, .int x5), (6, .int x6)]) hx hb d_Strip_writeWhole_65 rfl hl (by decide) rfl (fun ls hl => ?_)
  refine lv_iload_n hx hb d_Strip_writeWhole_66 rfl (lv_at hl 0 rfl) ?_
  refine lv_if_eq (tgt := 79) hx hb d_Strip_writeWhole_67 (by decide) (fun hc67 => ?_) (fun hc67 => ?_)
  · replace hM := gi_t hc67 hM
    exact t_Strip_writeWhole_b79 C hM hN hE0 ls H locs (lv_sub hl [1, 2, 0, 3, 4, 5] rfl) hP hS
  · replace hM := gi_f hc67 hM
    refine lv_aload_n hx hb d_Strip_writeWhole_70 rfl (lv_at hl 1 rfl) ?_
    refine lv_bipush (v := (48 : Int32)) hx hb d_Strip_writeWhole_71 (by decide) ?_
    refine lv_iload hx hb d_Strip_writeWhole_73 (lv_at hl 6 rfl) ?_
    refine lv_iadd hx hb d_Strip_writeWhole_75 ?_
    obtain ⟨q76, hq76, hM⟩ := gb_some hM
    refine g_backV (g_runV (As := [.int ((48 : Int32) + x6)]) C hP (c_Strip_write C.2.2.2.2.2.2.2.2.1 hq76) gi_Strip_write gm_Strip_43 rfl rfl (by decide) (by decide) hl.1 rfl (Nat.le_of_ble_eq_true rfl) d_Strip_writeWhole_76) hS (fun H locs hP hS => ?_)
    exact t_Strip_writeWhole_b79 C hM hN hE0 ls H locs (lv_sub hl [1, 2, 0, 3, 4, 5] rfl) hP hS
noncomputable def M_Strip_writeWhole_b60 (a1 : Nat) (x3 : Int32) (x4 : Int32) (x5 : Int32) (x6 : Int32) (u : gSt) : Option ((Nat × Int32 × Int32 × Int32 × Int32 × gSt) ⊕ ((Nat × Int32 × Int32 × gSt))) :=
  M_Strip_writeWhole_b65 a1 x3 x4 x5 x6 (1 : Int32) u
set_option maxHeartbeats 4000000 in
set_option maxRecDepth 100000 in
theorem t_Strip_writeWhole_b60 (C : gX "TermDesk$Strip" prog_9_method_7_code 7 none 1 21 R cells slots cy D ρ A p s m args meth c) {a1 : Nat} {x3 : Int32} {x4 : Int32} {x5 : Int32} {x6 : Int32} {u : gSt} {z : (Nat × Int32 × Int32 × Int32 × Int32 × gSt) ⊕ ((Nat × Int32 × Int32 × gSt))} (hM : M_Strip_writeWhole_b60 a1 x3 x4 x5 x6 u = some z) (hN : ∀ a1' x2' x3' x4' x5' u', z = .inl (a1', x2', x3', x4', x5', u') → gAt p l e R s m args below meth c Q H0 cells slots cy D ρ A 7 16 [(0, .ref (ρ 38)), (1, .ref (ρ (a1'))), (2, .int (x2')), (3, .int (x3')), (4, .int (x4')), (5, .int (x5'))] [] (u')) (hE0 : ∀ a1' x2' x3' u', z = .inr (a1', x2', x3', u') → gAt p l e R s m args below meth c Q H0 cells slots cy D ρ A 7 85 [(0, .ref (ρ 38)), (1, .ref (ρ (a1'))), (2, .int (x2')), (3, .int (x3'))] [] (u')) : gAt p l e R s m args below meth c Q H0 cells slots cy D ρ A 7 60 [(0, .ref (ρ 38)), (1, .ref (ρ a1)), (3, .int x3), (4, .int x4), (5, .int x5), (6, .int x6)] [] u := by
  intro ls H locs hl hP hS
  have hx := C.1
  have hb := C.2.1
  unfold M_Strip_writeWhole_b60 at hM
  refine lv_iconst (v := (1 : Int32)) hx hb d_Strip_writeWhole_60 (by decide) ?_
  refine lv_goto (tgt := 65) hx hb d_Strip_writeWhole_61 (by decide) ?_
  exact t_Strip_writeWhole_b65 C hM hN hE0 ls H locs (lv_sub hl [0, 1, 2, 3, 4, 5] rfl) hP hS
noncomputable def M_Strip_writeWhole_b49 (a1 : Nat) (x2 : Int32) (x3 : Int32) (x5 : Int32) (x6 : Int32) (s0 : Int32) (u : gSt) : Option ((Nat × Int32 × Int32 × Int32 × Int32 × gSt) ⊕ ((Nat × Int32 × Int32 × gSt))) :=
  if x2 = (0 : Int32) then
    (if x6 ≤ (0 : Int32) then
      (M_Strip_writeWhole_b65 a1 x3 s0 x5 x6 (0 : Int32) u)
    else
      (M_Strip_writeWhole_b60 a1 x3 s0 x5 x6 u))
  else
    (M_Strip_writeWhole_b60 a1 x3 s0 x5 x6 u)
set_option maxHeartbeats 4000000 in
set_option maxRecDepth 100000 in
theorem t_Strip_writeWhole_b49 (C : gX "TermDesk$Strip" prog_9_method_7_code 7 none 1 21 R cells slots cy D ρ A p s m args meth c) {a1 : Nat} {x2 : Int32} {x3 : Int32} {x5 : Int32} {x6 : Int32} {s0 : Int32} {u : gSt} {z : (Nat × Int32 × Int32 × Int32 × Int32 × gSt) ⊕ ((Nat × Int32 × Int32 × gSt))} (hM : M_Strip_writeWhole_b49 a1 x2 x3 x5 x6 s0 u = some z) (hN : ∀ a1' x2' x3' x4' x5' u', z = .inl (a1', x2', x3', x4', x5', u') → gAt p l e R s m args below meth c Q H0 cells slots cy D ρ A 7 16 [(0, .ref (ρ 38)), (1, .ref (ρ (a1'))), (2, .int (x2')), (3, .int (x3')), (4, .int (x4')), (5, .int (x5'))] [] (u')) (hE0 : ∀ a1' x2' x3' u', z = .inr (a1', x2', x3', u') → gAt p l e R s m args below meth c Q H0 cells slots cy D ρ A 7 85 [(0, .ref (ρ 38)), (1, .ref (ρ (a1'))), (2, .int (x2')), (3, .int (x3'))] [] (u')) : gAt p l e R s m args below meth c Q H0 cells slots cy D ρ A 7 49 [(0, .ref (ρ 38)), (1, .ref (ρ a1)), (2, .int x2), (3, .int x3), (5, .int x5), (6, .int x6)] [.int s0] u := by
  intro ls H locs hl hP hS
  have hx := C.1
  have hb := C.2.1
  unfold M_Strip_writeWhole_b49 at hM
  refine lv_istore (lv' := [(4, .int s0), (0, .ref (ρ 38)), (1, .ref (ρ a1)), (2, .int x2), (3, .int x3), (5, .int x5), (6, .int x6)]) hx hb d_Strip_writeWhole_49 hl (by decide) rfl (fun ls hl => ?_)
  refine lv_iload_n hx hb d_Strip_writeWhole_51 rfl (lv_at hl 3 rfl) ?_
  refine lv_if_ne (tgt := 60) hx hb d_Strip_writeWhole_52 (by decide) (fun hc52 => ?_) (fun hc52 => ?_)
  · replace hM := gi_f hc52 hM
    exact t_Strip_writeWhole_b60 C hM hN hE0 ls H locs (lv_sub hl [1, 2, 4, 0, 5, 6] rfl) hP hS
  · replace hM := gi_t hc52 hM
    refine lv_iload hx hb d_Strip_writeWhole_55 (lv_at hl 6 rfl) ?_
    refine lv_if_le (tgt := 64) hx hb d_Strip_writeWhole_57 (by decide) (fun hc57 => ?_) (fun hc57 => ?_)
    · replace hM := gi_t hc57 hM
      refine lv_iconst (v := (0 : Int32)) hx hb d_Strip_writeWhole_64 (by decide) ?_
      exact t_Strip_writeWhole_b65 C hM hN hE0 ls H locs (lv_sub hl [1, 2, 4, 0, 5, 6] rfl) hP hS
    · replace hM := gi_f hc57 hM
      exact t_Strip_writeWhole_b60 C hM hN hE0 ls H locs (lv_sub hl [1, 2, 4, 0, 5, 6] rfl) hP hS
noncomputable def M_Strip_writeWhole_b16 (a1 : Nat) (x2 : Int32) (x3 : Int32) (x4 : Int32) (x5 : Int32) (u : gSt) : Option ((Nat × Int32 × Int32 × Int32 × Int32 × gSt) ⊕ ((Nat × Int32 × Int32 × gSt))) :=
  if (9 : Int32) ≤ x5 then
    (some (.inr (a1, x2, x3, u)))
  else
    (gc (gK a1 == 22) <| gc (gIn x3 (gLen a1)) <| gc (!(x4 == 0)) <| if x4 ≤ (1 : Int32) then
      (M_Strip_writeWhole_b49 a1 x2 x3 x5 (((u.2.2.1 a1 (gIx x3)) / x4) - ((u.2.2.1 a1 (gIx x3)) / x4) / (10 : Int32) * (10 : Int32)) (1 : Int32) u)
    else
      (M_Strip_writeWhole_b49 a1 x2 x3 x5 (((u.2.2.1 a1 (gIx x3)) / x4) - ((u.2.2.1 a1 (gIx x3)) / x4) / (10 : Int32) * (10 : Int32)) (x4 / (10 : Int32)) u))
set_option maxHeartbeats 4000000 in
set_option maxRecDepth 100000 in
theorem t_Strip_writeWhole_b16 (C : gX "TermDesk$Strip" prog_9_method_7_code 7 none 1 21 R cells slots cy D ρ A p s m args meth c) {a1 : Nat} {x2 : Int32} {x3 : Int32} {x4 : Int32} {x5 : Int32} {u : gSt} {z : (Nat × Int32 × Int32 × Int32 × Int32 × gSt) ⊕ ((Nat × Int32 × Int32 × gSt))} (hM : M_Strip_writeWhole_b16 a1 x2 x3 x4 x5 u = some z) (hN : ∀ a1' x2' x3' x4' x5' u', z = .inl (a1', x2', x3', x4', x5', u') → gAt p l e R s m args below meth c Q H0 cells slots cy D ρ A 7 16 [(0, .ref (ρ 38)), (1, .ref (ρ (a1'))), (2, .int (x2')), (3, .int (x3')), (4, .int (x4')), (5, .int (x5'))] [] (u')) (hE0 : ∀ a1' x2' x3' u', z = .inr (a1', x2', x3', u') → gAt p l e R s m args below meth c Q H0 cells slots cy D ρ A 7 85 [(0, .ref (ρ 38)), (1, .ref (ρ (a1'))), (2, .int (x2')), (3, .int (x3'))] [] (u')) : gAt p l e R s m args below meth c Q H0 cells slots cy D ρ A 7 16 [(0, .ref (ρ 38)), (1, .ref (ρ a1)), (2, .int x2), (3, .int x3), (4, .int x4), (5, .int x5)] [] u := by
  intro ls H locs hl hP hS
  have hx := C.1
  have hb := C.2.1
  unfold M_Strip_writeWhole_b16 at hM
  refine lv_iload hx hb d_Strip_writeWhole_16 (lv_at hl 5 rfl) ?_
  refine lv_bipush (v := (9 : Int32)) hx hb d_Strip_writeWhole_18 (by decide) ?_
  refine lv_icmp_ge (tgt := 85) hx hb d_Strip_writeWhole_20 (by decide) (fun hc20 => ?_) (fun hc20 => ?_)
  · replace hM := gi_t hc20 hM
    exact hE0 _ _ _ _ (Option.some.inj hM).symm ls H locs (lv_sub hl [0, 1, 2, 3] rfl) hP hS
  · replace hM := gi_f hc20 hM
    refine lv_aload_n hx hb d_Strip_writeWhole_23 rfl (lv_at hl 1 rfl) ?_
    refine lv_iload_n hx hb d_Strip_writeWhole_24 rfl (lv_at hl 3 rfl) ?_
    obtain ⟨h25, hM⟩ := gc_some hM
    obtain ⟨hi25, hM⟩ := gc_some hM
    refine g_iald C hP (eq_of_beq h25) hi25 d_Strip_writeWhole_25 ?_
    refine lv_iload hx hb d_Strip_writeWhole_26 (lv_at hl 4 rfl) ?_
    obtain ⟨h28, hM⟩ := gc_some hM
    refine lv_idiv hx hb d_Strip_writeWhole_28 (gne0 h28) ?_
    refine lv_bipush (v := (10 : Int32)) hx hb d_Strip_writeWhole_29 (by decide) ?_
    refine lv_irem hx hb d_Strip_writeWhole_31 (by decide) ?_
    refine lv_istore (lv' := [(6, .int (((u.2.2.1 a1 (gIx x3)) / x4) - ((u.2.2.1 a1 (gIx x3)) / x4) / (10 : Int32) * (10 : Int32))), (0, .ref (ρ 38)), (1, .ref (ρ a1)), (2, .int x2), (3, .int x3), (4, .int x4), (5, .int x5)]) hx hb d_Strip_writeWhole_32 hl (by decide) rfl (fun ls hl => ?_)
    refine lv_iload hx hb d_Strip_writeWhole_34 (lv_at hl 5 rfl) ?_
    refine lv_iconst (v := (1 : Int32)) hx hb d_Strip_writeWhole_36 (by decide) ?_
    refine lv_icmp_le (tgt := 48) hx hb d_Strip_writeWhole_37 (by decide) (fun hc37 => ?_) (fun hc37 => ?_)
    · replace hM := gi_t hc37 hM
      refine lv_iconst (v := (1 : Int32)) hx hb d_Strip_writeWhole_48 (by decide) ?_
      exact t_Strip_writeWhole_b49 C hM hN hE0 ls H locs (lv_sub hl [1, 2, 3, 4, 6, 0] rfl) hP hS
    · replace hM := gi_f hc37 hM
      refine lv_iload hx hb d_Strip_writeWhole_40 (lv_at hl 5 rfl) ?_
      refine lv_bipush (v := (10 : Int32)) hx hb d_Strip_writeWhole_42 (by decide) ?_
      refine lv_idiv hx hb d_Strip_writeWhole_44 (by decide) ?_
      refine lv_goto (tgt := 49) hx hb d_Strip_writeWhole_45 (by decide) ?_
      exact t_Strip_writeWhole_b49 C hM hN hE0 ls H locs (lv_sub hl [1, 2, 3, 4, 6, 0] rfl) hP hS
noncomputable def M_Strip_writeWhole_L16 : (Nat × Int32 × Int32 × Int32 × Int32 × gSt) → Option ((Nat × Int32 × Int32 × Int32 × Int32 × gSt) ⊕ ((Nat × Int32 × Int32 × gSt))) := fun x => M_Strip_writeWhole_b16 x.1 x.2.1 x.2.2.1 x.2.2.2.1 x.2.2.2.2.1 x.2.2.2.2.2
theorem t_Strip_writeWhole_L16 (C : gX "TermDesk$Strip" prog_9_method_7_code 7 none 1 21 R cells slots cy D ρ A p s m args meth c) {a1 : Nat} {x2 : Int32} {x3 : Int32} {x4 : Int32} {x5 : Int32} {u : gSt} {yy : (Nat × Int32 × Int32 × gSt)} (hL : gLp M_Strip_writeWhole_L16 (a1, x2, x3, x4, x5, u) = some yy) (hE0 : (∀ y', yy = y' → gAt p l e R s m args below meth c Q H0 cells slots cy D ρ A 7 85 [(0, .ref (ρ 38)), (1, .ref (ρ (y'.1))), (2, .int (y'.2.1)), (3, .int (y'.2.2.1))] [] (y'.2.2.2))) : gAt p l e R s m args below meth c Q H0 cells slots cy D ρ A 7 16 [(0, .ref (ρ 38)), (1, .ref (ρ a1)), (2, .int x2), (3, .int x3), (4, .int x4), (5, .int x5)] [] u :=
  g_loop (f := M_Strip_writeWhole_L16) (P := fun x => gAt p l e R s m args below meth c Q H0 cells slots cy D ρ A 7 16 [(0, .ref (ρ 38)), (1, .ref (ρ x.1)), (2, .int x.2.1), (3, .int x.2.2.1), (4, .int x.2.2.2.1), (5, .int x.2.2.2.2.1)] [] x.2.2.2.2.2) (E := fun yy => (∀ y', yy = y' → gAt p l e R s m args below meth c Q H0 cells slots cy D ρ A 7 85 [(0, .ref (ρ 38)), (1, .ref (ρ (y'.1))), (2, .int (y'.2.1)), (3, .int (y'.2.2.1))] [] (y'.2.2.2))) (fun x z hf hN hE => t_Strip_writeWhole_b16 C hf (fun a1' x2' x3' x4' x5' u' h => hN (a1', x2', x3', x4', x5', u') h) (fun a1' x2' x3' u' h => (hE _ h) (a1', x2', x3', u') rfl)) hL hE0
noncomputable def M_Strip_writeWhole_b5 (a1 : Nat) (x2 : Int32) (x3 : Int32) (u : gSt) : Option ((Nat × Int32 × Int32 × gSt) ⊕ ((gSt))) :=
  if x3 < (0 : Int32) then
    (some (.inr u))
  else
    ((gLp M_Strip_writeWhole_L16 (a1, x2, x3, (100000000 : Int32), (0 : Int32), u)).bind fun y16 =>
    some (.inl (y16.1, y16.2.1, y16.2.2.1 + (-1 : Int32), y16.2.2.2)))
set_option maxHeartbeats 4000000 in
set_option maxRecDepth 100000 in
theorem t_Strip_writeWhole_b5 (C : gX "TermDesk$Strip" prog_9_method_7_code 7 none 1 21 R cells slots cy D ρ A p s m args meth c) {a1 : Nat} {x2 : Int32} {x3 : Int32} {u : gSt} {z : (Nat × Int32 × Int32 × gSt) ⊕ ((gSt))} (hM : M_Strip_writeWhole_b5 a1 x2 x3 u = some z) (hN : ∀ a1' x2' x3' u', z = .inl (a1', x2', x3', u') → gAt p l e R s m args below meth c Q H0 cells slots cy D ρ A 7 5 [(0, .ref (ρ 38)), (1, .ref (ρ (a1'))), (2, .int (x2')), (3, .int (x3'))] [] (u')) (hE0 : ∀ u', z = .inr u' → gAt p l e R s m args below meth c Q H0 cells slots cy D ρ A 7 91 [] [] (u')) : gAt p l e R s m args below meth c Q H0 cells slots cy D ρ A 7 5 [(0, .ref (ρ 38)), (1, .ref (ρ a1)), (2, .int x2), (3, .int x3)] [] u := by
  intro ls H locs hl hP hS
  have hx := C.1
  have hb := C.2.1
  unfold M_Strip_writeWhole_b5 at hM
  refine lv_iload_n hx hb d_Strip_writeWhole_5 rfl (lv_at hl 3 rfl) ?_
  refine lv_if_lt (tgt := 91) hx hb d_Strip_writeWhole_6 (by decide) (fun hc6 => ?_) (fun hc6 => ?_)
  · replace hM := gi_t hc6 hM
    exact hE0 _ (Option.some.inj hM).symm ls H locs (lv_sub hl [] rfl) hP hS
  · replace hM := gi_f hc6 hM
    refine lv_ldc (v := (100000000 : Int32)) hx hb C.2.2.2.2.1 (C.2.2.2.2.2.1 _ (gWs_at 1004 (by decide +kernel) (by decide +kernel))) d_Strip_writeWhole_9 ?_
    refine lv_istore (lv' := [(4, .int (100000000 : Int32)), (0, .ref (ρ 38)), (1, .ref (ρ a1)), (2, .int x2), (3, .int x3)]) hx hb d_Strip_writeWhole_11 hl (by decide) rfl (fun ls hl => ?_)
    refine lv_iconst (v := (0 : Int32)) hx hb d_Strip_writeWhole_13 (by decide) ?_
    refine lv_istore (lv' := [(5, .int (0 : Int32)), (4, .int (100000000 : Int32)), (0, .ref (ρ 38)), (1, .ref (ρ a1)), (2, .int x2), (3, .int x3)]) hx hb d_Strip_writeWhole_14 hl (by decide) rfl (fun ls hl => ?_)
    obtain ⟨y16, hL16, hM⟩ := gb_some hM
    refine t_Strip_writeWhole_L16 C hL16 (fun y16_0 hy => ?_) ls H locs (lv_sub hl [2, 3, 4, 5, 1, 0] rfl) hP hS
    · subst hy
      intro ls H locs hl hP hS
      refine lv_iinc (k := 3) (v := y16.2.2.1 + (-1 : Int32)) (lv' := [(3, .int (y16.2.2.1 + (-1 : Int32))), (0, .ref (ρ 38)), (1, .ref (ρ y16.1)), (2, .int y16.2.1)]) hx hb d_Strip_writeWhole_85 hl rfl (congrArg (fun z => y16.2.2.1 + z) (by decide)) (by decide) rfl (fun ls hl => ?_)
      refine lv_goto (tgt := 5) hx hb d_Strip_writeWhole_88 (by decide) ?_
      exact hN _ _ _ _ (Option.some.inj hM).symm ls H locs (lv_sub hl [1, 2, 3, 0] rfl) hP hS
noncomputable def M_Strip_writeWhole_L5 : (Nat × Int32 × Int32 × gSt) → Option ((Nat × Int32 × Int32 × gSt) ⊕ ((gSt))) := fun x => M_Strip_writeWhole_b5 x.1 x.2.1 x.2.2.1 x.2.2.2
theorem t_Strip_writeWhole_L5 (C : gX "TermDesk$Strip" prog_9_method_7_code 7 none 1 21 R cells slots cy D ρ A p s m args meth c) {a1 : Nat} {x2 : Int32} {x3 : Int32} {u : gSt} {yy : (gSt)} (hL : gLp M_Strip_writeWhole_L5 (a1, x2, x3, u) = some yy) (hE0 : (∀ y', yy = y' → gAt p l e R s m args below meth c Q H0 cells slots cy D ρ A 7 91 [] [] (y'))) : gAt p l e R s m args below meth c Q H0 cells slots cy D ρ A 7 5 [(0, .ref (ρ 38)), (1, .ref (ρ a1)), (2, .int x2), (3, .int x3)] [] u :=
  g_loop (f := M_Strip_writeWhole_L5) (P := fun x => gAt p l e R s m args below meth c Q H0 cells slots cy D ρ A 7 5 [(0, .ref (ρ 38)), (1, .ref (ρ x.1)), (2, .int x.2.1), (3, .int x.2.2.1)] [] x.2.2.2) (E := fun yy => (∀ y', yy = y' → gAt p l e R s m args below meth c Q H0 cells slots cy D ρ A 7 91 [] [] (y'))) (fun x z hf hN hE => t_Strip_writeWhole_b5 C hf (fun a1' x2' x3' u' h => hN (a1', x2', x3', u') h) (fun u' h => (hE _ h) u' rfl)) hL hE0
noncomputable def M_Strip_writeWhole (a1 : Nat) (u : gSt) : Option (gSt) :=
  (gLp M_Strip_writeWhole_L5 (a1, (0 : Int32), (7 : Int32), u)).bind fun y5 =>
  some y5
set_option maxHeartbeats 4000000 in
set_option maxRecDepth 100000 in
theorem t_Strip_writeWhole (C : gX "TermDesk$Strip" prog_9_method_7_code 7 none 1 21 R cells slots cy D ρ A p s m args meth c) {a1 : Nat} {u : gSt} {z : gSt} (hM : M_Strip_writeWhole a1 u = some z) (hR : gRtV p l e R s m args below meth c Q H0 cells slots cy D ρ A prog_9_method_7_code z) : gAt p l e R s m args below meth c Q H0 cells slots cy D ρ A 7 0 [(0, .ref (ρ 38)), (1, .ref (ρ a1))] [] u := by
  intro ls H locs hl hP hS
  have hx := C.1
  have hb := C.2.1
  unfold M_Strip_writeWhole at hM
  refine lv_iconst (v := (0 : Int32)) hx hb d_Strip_writeWhole_0 (by decide) ?_
  refine lv_istore_n (lv' := [(2, .int (0 : Int32)), (0, .ref (ρ 38)), (1, .ref (ρ a1))]) hx hb d_Strip_writeWhole_1 rfl hl (by decide) rfl (fun ls hl => ?_)
  refine lv_bipush (v := (7 : Int32)) hx hb d_Strip_writeWhole_2 (by decide) ?_
  refine lv_istore_n (lv' := [(3, .int (7 : Int32)), (2, .int (0 : Int32)), (0, .ref (ρ 38)), (1, .ref (ρ a1))]) hx hb d_Strip_writeWhole_4 rfl hl (by decide) rfl (fun ls hl => ?_)
  obtain ⟨y5, hL5, hM⟩ := gb_some hM
  refine t_Strip_writeWhole_L5 C hL5 (fun y5_0 hy => ?_) ls H locs (lv_sub hl [2, 3, 1, 0] rfl) hP hS
  · subst hy
    intro ls H locs hl hP hS
    obtain rfl := Option.some.inj hM
    exact hR _ ls H locs d_Strip_writeWhole_91 hP hS
theorem c_Strip_writeWhole {l : Launch} {cy : Nat → ClassId} {D : va_G} {ρ : Nat → Nat} {A : Nat → Prop} (hD : gD ρ A) {a1 : Nat} {u : gSt} {z : gSt} (hM : M_Strip_writeWhole a1 u = some z) : gCtV l y_Strip_writeWhole prog_9_method_7_code 7 none 1 21 cy D ρ A [.ref (ρ 38), .ref (ρ a1)] u z :=
  g_met (by decide) hD (Nat.le_of_ble_eq_true rfl) (fun p e s m below meth c ls X hl hP => t_Strip_writeWhole X hM (fun pc ls H locs hd hP hS => g_vret X hP hS hd) ls _ [] hl hP va_S.rf)
end
section
variable {p : Program} {l : Launch} {e : Env} {R : Room} {s : State} {m : MethodId} {args : Array Value} {below : List Frame} {meth : Method} {c : Code} {Q : State → Prop} {H0 : Heap} {cells slots : Nat} {cy : Nat → ClassId} {D : va_G} {ρ : Nat → Nat} {A : Nat → Prop}
def y_Strip_writeJust : MethodName := ⟨"TermDesk$Strip", "writeJust", "()V"⟩
theorem gi_Strip_writeJust : gMi y_Strip_writeJust prog_9_method_4_code 1 none 0 7 := ⟨(gWs_at 982 (by decide +kernel) (by decide +kernel)), (gWs_at 981 (by decide +kernel) (by decide +kernel)), (gWs_at 59 (by decide +kernel) (by decide +kernel)), (gWs_at 124 (by decide +kernel) (by decide +kernel)), ⟨by decide +kernel, by decide +kernel, by decide +kernel⟩, _, _, rfl⟩
theorem gm_Desk_231 : gMk "TermDesk" 231 y_Strip_writeJust := Or.inr ⟨"TermDesk", gNs_at 979 (by decide +kernel) (by decide +kernel)⟩
theorem d_Strip_writeJust_0 : decode prog_9_method_4_code 0 = .ok (.aload_n 0, 1) := by decide +kernel
theorem d_Strip_writeJust_1 : decode prog_9_method_4_code 1 = .ok (.invokevirtual 36, 3) := by decide +kernel
theorem d_Strip_writeJust_4 : decode prog_9_method_4_code 4 = .ok (.aload_n 0, 1) := by decide +kernel
theorem d_Strip_writeJust_5 : decode prog_9_method_4_code 5 = .ok (.getfield 17, 3) := by decide +kernel
theorem d_Strip_writeJust_8 : decode prog_9_method_4_code 8 = .ok (.aload_n 0, 1) := by decide +kernel
theorem d_Strip_writeJust_9 : decode prog_9_method_4_code 9 = .ok (.getfield 21, 3) := by decide +kernel
theorem d_Strip_writeJust_12 : decode prog_9_method_4_code 12 = .ok (.invokestatic 39, 3) := by decide +kernel
theorem d_Strip_writeJust_15 : decode prog_9_method_4_code 15 = .ok (.ifCond .ne 10, 3) := by decide +kernel
theorem d_Strip_writeJust_18 : decode prog_9_method_4_code 18 = .ok (.aload_n 0, 1) := by decide +kernel
theorem d_Strip_writeJust_19 : decode prog_9_method_4_code 19 = .ok (.bipush 49, 2) := by decide +kernel
theorem d_Strip_writeJust_21 : decode prog_9_method_4_code 21 = .ok (.invokevirtual 43, 3) := by decide +kernel
theorem d_Strip_writeJust_24 : decode prog_9_method_4_code 24 = .ok (.return_, 1) := by decide +kernel
theorem d_Strip_writeJust_25 : decode prog_9_method_4_code 25 = .ok (.aload_n 0, 1) := by decide +kernel
theorem d_Strip_writeJust_26 : decode prog_9_method_4_code 26 = .ok (.aload_n 0, 1) := by decide +kernel
theorem d_Strip_writeJust_27 : decode prog_9_method_4_code 27 = .ok (.getfield 17, 3) := by decide +kernel
theorem d_Strip_writeJust_30 : decode prog_9_method_4_code 30 = .ok (.invokevirtual 47, 3) := by decide +kernel
theorem d_Strip_writeJust_33 : decode prog_9_method_4_code 33 = .ok (.aload_n 0, 1) := by decide +kernel
theorem d_Strip_writeJust_34 : decode prog_9_method_4_code 34 = .ok (.bipush 47, 2) := by decide +kernel
theorem d_Strip_writeJust_36 : decode prog_9_method_4_code 36 = .ok (.invokevirtual 43, 3) := by decide +kernel
theorem d_Strip_writeJust_39 : decode prog_9_method_4_code 39 = .ok (.aload_n 0, 1) := by decide +kernel
theorem d_Strip_writeJust_40 : decode prog_9_method_4_code 40 = .ok (.aload_n 0, 1) := by decide +kernel
theorem d_Strip_writeJust_41 : decode prog_9_method_4_code 41 = .ok (.getfield 21, 3) := by decide +kernel
theorem d_Strip_writeJust_44 : decode prog_9_method_4_code 44 = .ok (.invokevirtual 47, 3) := by decide +kernel
theorem d_Strip_writeJust_47 : decode prog_9_method_4_code 47 = .ok (.return_, 1) := by decide +kernel
noncomputable def M_Strip_writeJust (u : gSt) : Option (gSt) :=
  (M_Strip_reduce u).bind fun q1 =>
  (M_Wide_compare 40 41 q1).bind fun q12 =>
  if q12.1 = (0 : Int32) then
    ((M_Strip_write (49 : Int32) q12.2).bind fun q21 =>
    some q21)
  else
    ((M_Strip_writeWhole 40 q12.2).bind fun q30 =>
    (M_Strip_write (47 : Int32) q30).bind fun q36 =>
    (M_Strip_writeWhole 41 q36).bind fun q44 =>
    some q44)
set_option maxHeartbeats 4000000 in
set_option maxRecDepth 100000 in
theorem t_Strip_writeJust (C : gX "TermDesk$Strip" prog_9_method_4_code 1 none 3 67 R cells slots cy D ρ A p s m args meth c) {u : gSt} {z : gSt} (hM : M_Strip_writeJust u = some z) (hR : gRtV p l e R s m args below meth c Q H0 cells slots cy D ρ A prog_9_method_4_code z) : gAt p l e R s m args below meth c Q H0 cells slots cy D ρ A 1 0 [(0, .ref (ρ 38))] [] u := by
  intro ls H locs hl hP hS
  have hx := C.1
  have hb := C.2.1
  unfold M_Strip_writeJust at hM
  refine lv_aload_n hx hb d_Strip_writeJust_0 rfl (lv_at hl 0 rfl) ?_
  obtain ⟨q1, hq1, hM⟩ := gb_some hM
  refine g_backV (g_runV (As := []) C hP (c_Strip_reduce C.2.2.2.2.2.2.2.2.1 hq1) gi_Strip_reduce gm_Strip_36 rfl rfl (by decide) (by decide) hl.1 rfl (Nat.le_of_ble_eq_true rfl) d_Strip_writeJust_1) hS (fun H locs hP hS => ?_)
  refine lv_aload_n hx hb d_Strip_writeJust_4 rfl (lv_at hl 0 rfl) ?_
  refine g_getR (b := 40) C hP gl_Strip_17 rfl rfl rfl d_Strip_writeJust_5 ?_
  refine lv_aload_n hx hb d_Strip_writeJust_8 rfl (lv_at hl 0 rfl) ?_
  refine g_getR (b := 41) C hP gl_Strip_21 rfl rfl rfl d_Strip_writeJust_9 ?_
  obtain ⟨q12, hq12, hM⟩ := gb_some hM
  refine g_backI (g_runS (As := [.ref (ρ 40), .ref (ρ 41)]) C hP (c_Wide_compare C.2.2.2.2.2.2.2.2.1 hq12) gi_Wide_compare gm_Strip_39 rfl (by decide) (by decide) hl.1 rfl (Nat.le_of_ble_eq_true rfl) d_Strip_writeJust_12) hS (fun H locs hP hS => ?_)
  refine lv_if_ne (tgt := 25) hx hb d_Strip_writeJust_15 (by decide) (fun hc15 => ?_) (fun hc15 => ?_)
  · replace hM := gi_f hc15 hM
    refine lv_aload_n hx hb d_Strip_writeJust_25 rfl (lv_at hl 0 rfl) ?_
    refine lv_aload_n hx hb d_Strip_writeJust_26 rfl (lv_at hl 0 rfl) ?_
    refine g_getR (b := 40) C hP gl_Strip_17 rfl rfl rfl d_Strip_writeJust_27 ?_
    obtain ⟨q30, hq30, hM⟩ := gb_some hM
    refine g_backV (g_runV (As := [.ref (ρ 40)]) C hP (c_Strip_writeWhole C.2.2.2.2.2.2.2.2.1 hq30) gi_Strip_writeWhole gm_Strip_47 rfl rfl (by decide) (by decide) hl.1 rfl (Nat.le_of_ble_eq_true rfl) d_Strip_writeJust_30) hS (fun H locs hP hS => ?_)
    refine lv_aload_n hx hb d_Strip_writeJust_33 rfl (lv_at hl 0 rfl) ?_
    refine lv_bipush (v := (47 : Int32)) hx hb d_Strip_writeJust_34 (by decide) ?_
    obtain ⟨q36, hq36, hM⟩ := gb_some hM
    refine g_backV (g_runV (As := [.int (47 : Int32)]) C hP (c_Strip_write C.2.2.2.2.2.2.2.2.1 hq36) gi_Strip_write gm_Strip_43 rfl rfl (by decide) (by decide) hl.1 rfl (Nat.le_of_ble_eq_true rfl) d_Strip_writeJust_36) hS (fun H locs hP hS => ?_)
    refine lv_aload_n hx hb d_Strip_writeJust_39 rfl (lv_at hl 0 rfl) ?_
    refine lv_aload_n hx hb d_Strip_writeJust_40 rfl (lv_at hl 0 rfl) ?_
    refine g_getR (b := 41) C hP gl_Strip_21 rfl rfl rfl d_Strip_writeJust_41 ?_
    obtain ⟨q44, hq44, hM⟩ := gb_some hM
    refine g_backV (g_runV (As := [.ref (ρ 41)]) C hP (c_Strip_writeWhole C.2.2.2.2.2.2.2.2.1 hq44) gi_Strip_writeWhole gm_Strip_47 rfl rfl (by decide) (by decide) hl.1 rfl (Nat.le_of_ble_eq_true rfl) d_Strip_writeJust_44) hS (fun H locs hP hS => ?_)
    obtain rfl := Option.some.inj hM
    exact hR _ ls H locs d_Strip_writeJust_47 hP hS
  · replace hM := gi_t hc15 hM
    refine lv_aload_n hx hb d_Strip_writeJust_18 rfl (lv_at hl 0 rfl) ?_
    refine lv_bipush (v := (49 : Int32)) hx hb d_Strip_writeJust_19 (by decide) ?_
    obtain ⟨q21, hq21, hM⟩ := gb_some hM
    refine g_backV (g_runV (As := [.int (49 : Int32)]) C hP (c_Strip_write C.2.2.2.2.2.2.2.2.1 hq21) gi_Strip_write gm_Strip_43 rfl rfl (by decide) (by decide) hl.1 rfl (Nat.le_of_ble_eq_true rfl) d_Strip_writeJust_21) hS (fun H locs hP hS => ?_)
    obtain rfl := Option.some.inj hM
    exact hR _ ls H locs d_Strip_writeJust_24 hP hS
theorem c_Strip_writeJust {l : Launch} {cy : Nat → ClassId} {D : va_G} {ρ : Nat → Nat} {A : Nat → Prop} (hD : gD ρ A) {u : gSt} {z : gSt} (hM : M_Strip_writeJust u = some z) : gCtV l y_Strip_writeJust prog_9_method_4_code 1 none 3 67 cy D ρ A [.ref (ρ 38)] u z :=
  g_met (by decide) hD (Nat.le_of_ble_eq_true rfl) (fun p e s m below meth c ls X hl hP => t_Strip_writeJust X hM (fun pc ls H locs hd hP hS => g_vret X hP hS hd) ls _ [] hl hP va_S.rf)
end
section
variable {p : Program} {l : Launch} {e : Env} {R : Room} {s : State} {m : MethodId} {args : Array Value} {below : List Frame} {meth : Method} {c : Code} {Q : State → Prop} {H0 : Heap} {cells slots : Nat} {cy : Nat → ClassId} {D : va_G} {ρ : Nat → Nat} {A : Nat → Prop}
def y_Desk_character : MethodName := ⟨"TermDesk", "character", "(I)I"⟩
theorem gi_Desk_character : gMi y_Desk_character prog_1_method_14_code 2 (some .int) 1 0 := ⟨(gWs_at 600 (by decide +kernel) (by decide +kernel)), (gWs_at 598 (by decide +kernel) (by decide +kernel)), (gWs_at 599 (by decide +kernel) (by decide +kernel)), (gWs_at 117 (by decide +kernel) (by decide +kernel)), ⟨by decide +kernel, by decide +kernel, by decide +kernel⟩, _, _, rfl⟩
theorem gm_Law_106 : gMk "TermDeskLaw" 106 y_Desk_character := Or.inl (gWs_at 597 (by decide +kernel) (by decide +kernel))
theorem d_Desk_character_0 : decode prog_1_method_14_code 0 = .ok (.iload_n 1, 1) := by decide +kernel
theorem d_Desk_character_1 : decode prog_1_method_14_code 1 = .ok (.ifCond .lt 26, 3) := by decide +kernel
theorem d_Desk_character_4 : decode prog_1_method_14_code 4 = .ok (.iload_n 1, 1) := by decide +kernel
theorem d_Desk_character_5 : decode prog_1_method_14_code 5 = .ok (.aload_n 0, 1) := by decide +kernel
theorem d_Desk_character_6 : decode prog_1_method_14_code 6 = .ok (.getfield 36, 3) := by decide +kernel
theorem d_Desk_character_9 : decode prog_1_method_14_code 9 = .ok (.getfield 237, 3) := by decide +kernel
theorem d_Desk_character_12 : decode prog_1_method_14_code 12 = .ok (.if_icmp .ge 15, 3) := by decide +kernel
theorem d_Desk_character_15 : decode prog_1_method_14_code 15 = .ok (.aload_n 0, 1) := by decide +kernel
theorem d_Desk_character_16 : decode prog_1_method_14_code 16 = .ok (.getfield 36, 3) := by decide +kernel
theorem d_Desk_character_19 : decode prog_1_method_14_code 19 = .ok (.getfield 238, 3) := by decide +kernel
theorem d_Desk_character_22 : decode prog_1_method_14_code 22 = .ok (.iload_n 1, 1) := by decide +kernel
theorem d_Desk_character_23 : decode prog_1_method_14_code 23 = .ok (.caload, 1) := by decide +kernel
theorem d_Desk_character_24 : decode prog_1_method_14_code 24 = .ok (.goto 4, 3) := by decide +kernel
theorem d_Desk_character_27 : decode prog_1_method_14_code 27 = .ok (.iconst (-1), 1) := by decide +kernel
theorem d_Desk_character_28 : decode prog_1_method_14_code 28 = .ok (.ireturn, 1) := by decide +kernel
noncomputable def M_Desk_character_b28 (s0 : Int32) (u : gSt) : Option ((Int32 × gSt)) :=
  some (s0, u)
set_option maxHeartbeats 4000000 in
set_option maxRecDepth 100000 in
theorem t_Desk_character_b28 (C : gX "TermDesk" prog_1_method_14_code 2 (some .int) 0 0 R cells slots cy D ρ A p s m args meth c) {s0 : Int32} {u : gSt} {z : (Int32 × gSt)} (hM : M_Desk_character_b28 s0 u = some z) (hR : gRtI p l e R s m args below meth c Q H0 cells slots cy D ρ A prog_1_method_14_code z.1 z.2) : gAt p l e R s m args below meth c Q H0 cells slots cy D ρ A 2 28 [] [.int s0] u := by
  intro ls H locs hl hP hS
  have hx := C.1
  have hb := C.2.1
  unfold M_Desk_character_b28 at hM
  obtain rfl := Option.some.inj hM
  exact hR _ ls H locs d_Desk_character_28 hP hS
noncomputable def M_Desk_character_b27 (u : gSt) : Option ((Int32 × gSt)) :=
  M_Desk_character_b28 (-1 : Int32) u
set_option maxHeartbeats 4000000 in
set_option maxRecDepth 100000 in
theorem t_Desk_character_b27 (C : gX "TermDesk" prog_1_method_14_code 2 (some .int) 0 0 R cells slots cy D ρ A p s m args meth c) {u : gSt} {z : (Int32 × gSt)} (hM : M_Desk_character_b27 u = some z) (hR : gRtI p l e R s m args below meth c Q H0 cells slots cy D ρ A prog_1_method_14_code z.1 z.2) : gAt p l e R s m args below meth c Q H0 cells slots cy D ρ A 2 27 [] [] u := by
  intro ls H locs hl hP hS
  have hx := C.1
  have hb := C.2.1
  unfold M_Desk_character_b27 at hM
  refine lv_iconst (v := (-1 : Int32)) hx hb d_Desk_character_27 (by decide) ?_
  exact t_Desk_character_b28 C hM hR ls H locs (lv_sub hl [] rfl) hP hS
noncomputable def M_Desk_character (x1 : Int32) (u : gSt) : Option ((Int32 × gSt)) :=
  if x1 < (0 : Int32) then
    (M_Desk_character_b27 u)
  else
    (if (u.1 38 3) ≤ x1 then
      (M_Desk_character_b27 u)
    else
      (gc (gIn x1 (gLen 39)) <| M_Desk_character_b28 (u.2.2.1 39 (gIx x1)) u))
set_option maxHeartbeats 4000000 in
set_option maxRecDepth 100000 in
theorem t_Desk_character (C : gX "TermDesk" prog_1_method_14_code 2 (some .int) 0 0 R cells slots cy D ρ A p s m args meth c) {x1 : Int32} {u : gSt} {z : (Int32 × gSt)} (hM : M_Desk_character x1 u = some z) (hR : gRtI p l e R s m args below meth c Q H0 cells slots cy D ρ A prog_1_method_14_code z.1 z.2) : gAt p l e R s m args below meth c Q H0 cells slots cy D ρ A 2 0 [(0, .ref (ρ 0)), (1, .int x1)] [] u := by
  intro ls H locs hl hP hS
  have hx := C.1
  have hb := C.2.1
  unfold M_Desk_character at hM
  refine lv_iload_n hx hb d_Desk_character_0 rfl (lv_at hl 1 rfl) ?_
  refine lv_if_lt (tgt := 27) hx hb d_Desk_character_1 (by decide) (fun hc1 => ?_) (fun hc1 => ?_)
  · replace hM := gi_t hc1 hM
    exact t_Desk_character_b27 C hM hR ls H locs (lv_sub hl [] rfl) hP hS
  · replace hM := gi_f hc1 hM
    refine lv_iload_n hx hb d_Desk_character_4 rfl (lv_at hl 1 rfl) ?_
    refine lv_aload_n hx hb d_Desk_character_5 rfl (lv_at hl 0 rfl) ?_
    refine g_getR (b := 38) C hP gl_Desk_36 rfl rfl rfl d_Desk_character_6 ?_
    refine g_getI C hP gl_Desk_237 rfl rfl d_Desk_character_9 ?_
    refine lv_icmp_ge (tgt := 27) hx hb d_Desk_character_12 (by decide) (fun hc12 => ?_) (fun hc12 => ?_)
    · replace hM := gi_t hc12 hM
      exact t_Desk_character_b27 C hM hR ls H locs (lv_sub hl [] rfl) hP hS
    · replace hM := gi_f hc12 hM
      refine lv_aload_n hx hb d_Desk_character_15 rfl (lv_at hl 0 rfl) ?_
      refine g_getR (b := 38) C hP gl_Desk_36 rfl rfl rfl d_Desk_character_16 ?_
      refine g_getR (b := 39) C hP gl_Desk_238 rfl rfl rfl d_Desk_character_19 ?_
      refine lv_iload_n hx hb d_Desk_character_22 rfl (lv_at hl 1 rfl) ?_
      obtain ⟨hi23, hM⟩ := gc_some hM
      refine g_cald C hP rfl hi23 d_Desk_character_23 ?_
      refine lv_goto (tgt := 28) hx hb d_Desk_character_24 (by decide) ?_
      exact t_Desk_character_b28 C hM hR ls H locs (lv_sub hl [] rfl) hP hS
theorem c_Desk_character {l : Launch} {cy : Nat → ClassId} {D : va_G} {ρ : Nat → Nat} {A : Nat → Prop} (hD : gD ρ A) {x1 : Int32} {u : gSt} {z : (Int32 × gSt)} (hM : M_Desk_character x1 u = some z) : gCtI l y_Desk_character prog_1_method_14_code 2 (some .int) 0 0 cy D ρ A [.ref (ρ 0), .int x1] u z.1 z.2 :=
  g_met (by decide) hD (Nat.le_of_ble_eq_true rfl) (fun p e s m below meth c ls X hl hP => t_Desk_character X hM (fun pc ls H locs hd hP hS => g_iret X hP hS hd) ls _ [] hl hP va_S.rf)
end
section
variable {p : Program} {l : Launch} {e : Env} {R : Room} {s : State} {m : MethodId} {args : Array Value} {below : List Frame} {meth : Method} {c : Code} {Q : State → Prop} {H0 : Heap} {cells slots : Nat} {cy : Nat → ClassId} {D : va_G} {ρ : Nat → Nat} {A : Nat → Prop}
def y_Desk_clear : MethodName := ⟨"TermDesk", "clear", "()V"⟩
theorem gi_Desk_clear : gMi y_Desk_clear prog_1_method_15_code 1 none 0 0 := ⟨(gWs_at 604 (by decide +kernel) (by decide +kernel)), (gWs_at 602 (by decide +kernel) (by decide +kernel)), (gWs_at 603 (by decide +kernel) (by decide +kernel)), (gWs_at 117 (by decide +kernel) (by decide +kernel)), ⟨by decide +kernel, by decide +kernel, by decide +kernel⟩, _, _, rfl⟩
theorem gm_Law_110 : gMk "TermDeskLaw" 110 y_Desk_clear := Or.inl (gWs_at 601 (by decide +kernel) (by decide +kernel))
theorem d_Desk_clear_0 : decode prog_1_method_15_code 0 = .ok (.aload_n 0, 1) := by decide +kernel
theorem d_Desk_clear_1 : decode prog_1_method_15_code 1 = .ok (.getfield 20, 3) := by decide +kernel
theorem d_Desk_clear_4 : decode prog_1_method_15_code 4 = .ok (.iconst 0, 1) := by decide +kernel
theorem d_Desk_clear_5 : decode prog_1_method_15_code 5 = .ok (.putfield 51, 3) := by decide +kernel
theorem d_Desk_clear_8 : decode prog_1_method_15_code 8 = .ok (.aload_n 0, 1) := by decide +kernel
theorem d_Desk_clear_9 : decode prog_1_method_15_code 9 = .ok (.getfield 25, 3) := by decide +kernel
theorem d_Desk_clear_12 : decode prog_1_method_15_code 12 = .ok (.invokevirtual 242, 3) := by decide +kernel
theorem d_Desk_clear_15 : decode prog_1_method_15_code 15 = .ok (.aload_n 0, 1) := by decide +kernel
theorem d_Desk_clear_16 : decode prog_1_method_15_code 16 = .ok (.getfield 29, 3) := by decide +kernel
theorem d_Desk_clear_19 : decode prog_1_method_15_code 19 = .ok (.iconst 0, 1) := by decide +kernel
theorem d_Desk_clear_20 : decode prog_1_method_15_code 20 = .ok (.putfield 99, 3) := by decide +kernel
theorem d_Desk_clear_23 : decode prog_1_method_15_code 23 = .ok (.aload_n 0, 1) := by decide +kernel
theorem d_Desk_clear_24 : decode prog_1_method_15_code 24 = .ok (.getfield 36, 3) := by decide +kernel
theorem d_Desk_clear_27 : decode prog_1_method_15_code 27 = .ok (.iconst 0, 1) := by decide +kernel
theorem d_Desk_clear_28 : decode prog_1_method_15_code 28 = .ok (.putfield 237, 3) := by decide +kernel
theorem d_Desk_clear_31 : decode prog_1_method_15_code 31 = .ok (.aload_n 0, 1) := by decide +kernel
theorem d_Desk_clear_32 : decode prog_1_method_15_code 32 = .ok (.iconst 0, 1) := by decide +kernel
theorem d_Desk_clear_33 : decode prog_1_method_15_code 33 = .ok (.putfield 40, 3) := by decide +kernel
theorem d_Desk_clear_36 : decode prog_1_method_15_code 36 = .ok (.aload_n 0, 1) := by decide +kernel
theorem d_Desk_clear_37 : decode prog_1_method_15_code 37 = .ok (.iconst (-1), 1) := by decide +kernel
theorem d_Desk_clear_38 : decode prog_1_method_15_code 38 = .ok (.putfield 44, 3) := by decide +kernel
theorem d_Desk_clear_41 : decode prog_1_method_15_code 41 = .ok (.aload_n 0, 1) := by decide +kernel
theorem d_Desk_clear_42 : decode prog_1_method_15_code 42 = .ok (.iconst 0, 1) := by decide +kernel
theorem d_Desk_clear_43 : decode prog_1_method_15_code 43 = .ok (.putfield 47, 3) := by decide +kernel
theorem d_Desk_clear_46 : decode prog_1_method_15_code 46 = .ok (.return_, 1) := by decide +kernel
noncomputable def M_Desk_clear (u : gSt) : Option (gSt) :=
  (some (gsF u 2 1 (0 : Int32))).bind fun u5 =>
  (M_Board_empty u5).bind fun q12 =>
  (some (gsF q12 27 13 (0 : Int32))).bind fun u20 =>
  (some (gsF u20 38 3 (0 : Int32))).bind fun u28 =>
  (some (gsF u28 0 5 (0 : Int32))).bind fun u33 =>
  (some (gsF u33 0 6 (-1 : Int32))).bind fun u38 =>
  (some (gsF u38 0 7 (0 : Int32))).bind fun u43 =>
  some u43
set_option maxHeartbeats 4000000 in
set_option maxRecDepth 100000 in
theorem t_Desk_clear (C : gX "TermDesk" prog_1_method_15_code 1 none 3 64 R cells slots cy D ρ A p s m args meth c) {u : gSt} {z : gSt} (hM : M_Desk_clear u = some z) (hR : gRtV p l e R s m args below meth c Q H0 cells slots cy D ρ A prog_1_method_15_code z) : gAt p l e R s m args below meth c Q H0 cells slots cy D ρ A 1 0 [(0, .ref (ρ 0))] [] u := by
  intro ls H locs hl hP hS
  have hx := C.1
  have hb := C.2.1
  unfold M_Desk_clear at hM
  refine lv_aload_n hx hb d_Desk_clear_0 rfl (lv_at hl 0 rfl) ?_
  refine g_getR (b := 2) C hP gl_Desk_20 rfl rfl rfl d_Desk_clear_1 ?_
  refine lv_iconst (v := (0 : Int32)) hx hb d_Desk_clear_4 (by decide) ?_
  obtain ⟨u5, e5, hM⟩ := gb_some hM
  refine g_putI C hP hS gl_Desk_51 rfl rfl gq_2_1 d_Desk_clear_5 (fun H locs hP hS => ?_)
  rw [Option.some.inj e5] at hP
  refine lv_aload_n hx hb d_Desk_clear_8 rfl (lv_at hl 0 rfl) ?_
  refine g_getR (b := 4) C hP gl_Desk_25 rfl rfl rfl d_Desk_clear_9 ?_
  obtain ⟨q12, hq12, hM⟩ := gb_some hM
  refine g_backV (g_runV (As := []) C hP (c_Board_empty C.2.2.2.2.2.2.2.2.1 hq12) gi_Board_empty gm_Desk_242 rfl rfl (by decide) (by decide) hl.1 rfl (Nat.le_of_ble_eq_true rfl) d_Desk_clear_12) hS (fun H locs hP hS => ?_)
  refine lv_aload_n hx hb d_Desk_clear_15 rfl (lv_at hl 0 rfl) ?_
  refine g_getR (b := 27) C hP gl_Desk_29 rfl rfl rfl d_Desk_clear_16 ?_
  refine lv_iconst (v := (0 : Int32)) hx hb d_Desk_clear_19 (by decide) ?_
  obtain ⟨u20, e20, hM⟩ := gb_some hM
  refine g_putI C hP hS gl_Desk_99 rfl rfl gq_6_13 d_Desk_clear_20 (fun H locs hP hS => ?_)
  rw [Option.some.inj e20] at hP
  refine lv_aload_n hx hb d_Desk_clear_23 rfl (lv_at hl 0 rfl) ?_
  refine g_getR (b := 38) C hP gl_Desk_36 rfl rfl rfl d_Desk_clear_24 ?_
  refine lv_iconst (v := (0 : Int32)) hx hb d_Desk_clear_27 (by decide) ?_
  obtain ⟨u28, e28, hM⟩ := gb_some hM
  refine g_putI C hP hS gl_Desk_237 rfl rfl gq_7_3 d_Desk_clear_28 (fun H locs hP hS => ?_)
  rw [Option.some.inj e28] at hP
  refine lv_aload_n hx hb d_Desk_clear_31 rfl (lv_at hl 0 rfl) ?_
  refine lv_iconst (v := (0 : Int32)) hx hb d_Desk_clear_32 (by decide) ?_
  obtain ⟨u33, e33, hM⟩ := gb_some hM
  refine g_putI C hP hS gl_Desk_40 rfl rfl gq_0_5 d_Desk_clear_33 (fun H locs hP hS => ?_)
  rw [Option.some.inj e33] at hP
  refine lv_aload_n hx hb d_Desk_clear_36 rfl (lv_at hl 0 rfl) ?_
  refine lv_iconst (v := (-1 : Int32)) hx hb d_Desk_clear_37 (by decide) ?_
  obtain ⟨u38, e38, hM⟩ := gb_some hM
  refine g_putI C hP hS gl_Desk_44 rfl rfl gq_0_6 d_Desk_clear_38 (fun H locs hP hS => ?_)
  rw [Option.some.inj e38] at hP
  refine lv_aload_n hx hb d_Desk_clear_41 rfl (lv_at hl 0 rfl) ?_
  refine lv_iconst (v := (0 : Int32)) hx hb d_Desk_clear_42 (by decide) ?_
  obtain ⟨u43, e43, hM⟩ := gb_some hM
  refine g_putZ C hP hS gl_Desk_47 rfl rfl gq_0_7 rfl d_Desk_clear_43 (fun H locs hP hS => ?_)
  rw [Option.some.inj e43] at hP
  obtain rfl := Option.some.inj hM
  exact hR _ ls H locs d_Desk_clear_46 hP hS
theorem c_Desk_clear {l : Launch} {cy : Nat → ClassId} {D : va_G} {ρ : Nat → Nat} {A : Nat → Prop} (hD : gD ρ A) {u : gSt} {z : gSt} (hM : M_Desk_clear u = some z) : gCtV l y_Desk_clear prog_1_method_15_code 1 none 3 64 cy D ρ A [.ref (ρ 0)] u z :=
  g_met (by decide) hD (Nat.le_of_ble_eq_true rfl) (fun p e s m below meth c ls X hl hP => t_Desk_clear X hM (fun pc ls H locs hd hP hS => g_vret X hP hS hd) ls _ [] hl hP va_S.rf)
end
