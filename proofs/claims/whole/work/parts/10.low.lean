/-! printed by wip/whole/gen/gen.py -/
section
variable {p : Program} {l : Launch} {e : Env} {R : Room} {s : State} {m : MethodId} {args : Array Value} {below : List Frame} {meth : Method} {c : Code} {Q : State → Prop} {H0 : Heap} {cells slots : Nat} {cy : Nat → ClassId} {D : va_G} {ρ : Nat → Nat} {A : Nat → Prop}
def y_Long_bitCount : MethodName := ⟨"java/lang/Long", "bitCount", "(J)I"⟩
theorem gi_Long_bitCount : gMs y_Long_bitCount prog_19_method_50_code 2 (some .int) 1 := ⟨(gWs_at 753 (by decide +kernel) (by decide +kernel)), (gWs_at 752 (by decide +kernel) (by decide +kernel)), (gWs_at 136 (by decide +kernel) (by decide +kernel)), ⟨by decide +kernel, by decide +kernel, by decide +kernel⟩⟩
theorem gm_Grid_17 : gMk "TermDesk$Grid" 17 y_Long_bitCount := Or.inl (gWs_at 751 (by decide +kernel) (by decide +kernel))
theorem d_Long_bitCount_0 : decode prog_19_method_50_code 0 = .ok (.lload_n 0, 1) := by decide +kernel
theorem d_Long_bitCount_1 : decode prog_19_method_50_code 1 = .ok (.lload_n 0, 1) := by decide +kernel
theorem d_Long_bitCount_2 : decode prog_19_method_50_code 2 = .ok (.iconst 1, 1) := by decide +kernel
theorem d_Long_bitCount_3 : decode prog_19_method_50_code 3 = .ok (.lushr, 1) := by decide +kernel
theorem d_Long_bitCount_4 : decode prog_19_method_50_code 4 = .ok (.ldc2_w 314, 3) := by decide +kernel
theorem d_Long_bitCount_7 : decode prog_19_method_50_code 7 = .ok (.land, 1) := by decide +kernel
theorem d_Long_bitCount_8 : decode prog_19_method_50_code 8 = .ok (.lsub, 1) := by decide +kernel
theorem d_Long_bitCount_9 : decode prog_19_method_50_code 9 = .ok (.lstore_n 0, 1) := by decide +kernel
theorem d_Long_bitCount_10 : decode prog_19_method_50_code 10 = .ok (.lload_n 0, 1) := by decide +kernel
theorem d_Long_bitCount_11 : decode prog_19_method_50_code 11 = .ok (.ldc2_w 316, 3) := by decide +kernel
theorem d_Long_bitCount_14 : decode prog_19_method_50_code 14 = .ok (.land, 1) := by decide +kernel
theorem d_Long_bitCount_15 : decode prog_19_method_50_code 15 = .ok (.lload_n 0, 1) := by decide +kernel
theorem d_Long_bitCount_16 : decode prog_19_method_50_code 16 = .ok (.iconst 2, 1) := by decide +kernel
theorem d_Long_bitCount_17 : decode prog_19_method_50_code 17 = .ok (.lushr, 1) := by decide +kernel
theorem d_Long_bitCount_18 : decode prog_19_method_50_code 18 = .ok (.ldc2_w 316, 3) := by decide +kernel
theorem d_Long_bitCount_21 : decode prog_19_method_50_code 21 = .ok (.land, 1) := by decide +kernel
theorem d_Long_bitCount_22 : decode prog_19_method_50_code 22 = .ok (.ladd, 1) := by decide +kernel
theorem d_Long_bitCount_23 : decode prog_19_method_50_code 23 = .ok (.lstore_n 0, 1) := by decide +kernel
theorem d_Long_bitCount_24 : decode prog_19_method_50_code 24 = .ok (.lload_n 0, 1) := by decide +kernel
theorem d_Long_bitCount_25 : decode prog_19_method_50_code 25 = .ok (.lload_n 0, 1) := by decide +kernel
theorem d_Long_bitCount_26 : decode prog_19_method_50_code 26 = .ok (.iconst 4, 1) := by decide +kernel
theorem d_Long_bitCount_27 : decode prog_19_method_50_code 27 = .ok (.lushr, 1) := by decide +kernel
theorem d_Long_bitCount_28 : decode prog_19_method_50_code 28 = .ok (.ladd, 1) := by decide +kernel
theorem d_Long_bitCount_29 : decode prog_19_method_50_code 29 = .ok (.ldc2_w 318, 3) := by decide +kernel
theorem d_Long_bitCount_32 : decode prog_19_method_50_code 32 = .ok (.land, 1) := by decide +kernel
theorem d_Long_bitCount_33 : decode prog_19_method_50_code 33 = .ok (.lstore_n 0, 1) := by decide +kernel
theorem d_Long_bitCount_34 : decode prog_19_method_50_code 34 = .ok (.lload_n 0, 1) := by decide +kernel
theorem d_Long_bitCount_35 : decode prog_19_method_50_code 35 = .ok (.lload_n 0, 1) := by decide +kernel
theorem d_Long_bitCount_36 : decode prog_19_method_50_code 36 = .ok (.bipush 8, 2) := by decide +kernel
theorem d_Long_bitCount_38 : decode prog_19_method_50_code 38 = .ok (.lushr, 1) := by decide +kernel
theorem d_Long_bitCount_39 : decode prog_19_method_50_code 39 = .ok (.ladd, 1) := by decide +kernel
theorem d_Long_bitCount_40 : decode prog_19_method_50_code 40 = .ok (.lstore_n 0, 1) := by decide +kernel
theorem d_Long_bitCount_41 : decode prog_19_method_50_code 41 = .ok (.lload_n 0, 1) := by decide +kernel
theorem d_Long_bitCount_42 : decode prog_19_method_50_code 42 = .ok (.lload_n 0, 1) := by decide +kernel
theorem d_Long_bitCount_43 : decode prog_19_method_50_code 43 = .ok (.bipush 16, 2) := by decide +kernel
theorem d_Long_bitCount_45 : decode prog_19_method_50_code 45 = .ok (.lushr, 1) := by decide +kernel
theorem d_Long_bitCount_46 : decode prog_19_method_50_code 46 = .ok (.ladd, 1) := by decide +kernel
theorem d_Long_bitCount_47 : decode prog_19_method_50_code 47 = .ok (.lstore_n 0, 1) := by decide +kernel
theorem d_Long_bitCount_48 : decode prog_19_method_50_code 48 = .ok (.lload_n 0, 1) := by decide +kernel
theorem d_Long_bitCount_49 : decode prog_19_method_50_code 49 = .ok (.lload_n 0, 1) := by decide +kernel
theorem d_Long_bitCount_50 : decode prog_19_method_50_code 50 = .ok (.bipush 32, 2) := by decide +kernel
theorem d_Long_bitCount_52 : decode prog_19_method_50_code 52 = .ok (.lushr, 1) := by decide +kernel
theorem d_Long_bitCount_53 : decode prog_19_method_50_code 53 = .ok (.ladd, 1) := by decide +kernel
theorem d_Long_bitCount_54 : decode prog_19_method_50_code 54 = .ok (.lstore_n 0, 1) := by decide +kernel
theorem d_Long_bitCount_55 : decode prog_19_method_50_code 55 = .ok (.lload_n 0, 1) := by decide +kernel
theorem d_Long_bitCount_56 : decode prog_19_method_50_code 56 = .ok (.l2i, 1) := by decide +kernel
theorem d_Long_bitCount_57 : decode prog_19_method_50_code 57 = .ok (.bipush 127, 2) := by decide +kernel
theorem d_Long_bitCount_59 : decode prog_19_method_50_code 59 = .ok (.iand, 1) := by decide +kernel
theorem d_Long_bitCount_60 : decode prog_19_method_50_code 60 = .ok (.ireturn, 1) := by decide +kernel
noncomputable def M_Long_bitCount (y0 : Int64) (u : gSt) : Option ((Int32 × gSt)) :=
  some ((((((((((y0 - (((y0.toUInt64 >>> ((1 : Int32).toInt64.toUInt64 &&& Int64.toUInt64 63)).toInt64) &&& (6148914691236517205 : Int64))) &&& (3689348814741910323 : Int64)) + ((((y0 - (((y0.toUInt64 >>> ((1 : Int32).toInt64.toUInt64 &&& Int64.toUInt64 63)).toInt64) &&& (6148914691236517205 : Int64))).toUInt64 >>> ((2 : Int32).toInt64.toUInt64 &&& Int64.toUInt64 63)).toInt64) &&& (3689348814741910323 : Int64))) + (((((y0 - (((y0.toUInt64 >>> ((1 : Int32).toInt64.toUInt64 &&& Int64.toUInt64 63)).toInt64) &&& (6148914691236517205 : Int64))) &&& (3689348814741910323 : Int64)) + ((((y0 - (((y0.toUInt64 >>> ((1 : Int32).toInt64.toUInt64 &&& Int64.toUInt64 63)).toInt64) &&& (6148914691236517205 : Int64))).toUInt64 >>> ((2 : Int32).toInt64.toUInt64 &&& Int64.toUInt64 63)).toInt64) &&& (3689348814741910323 : Int64))).toUInt64 >>> ((4 : Int32).toInt64.toUInt64 &&& Int64.toUInt64 63)).toInt64)) &&& (1085102592571150095 : Int64)) + (((((((y0 - (((y0.toUInt64 >>> ((1 : Int32).toInt64.toUInt64 &&& Int64.toUInt64 63)).toInt64) &&& (6148914691236517205 : Int64))) &&& (3689348814741910323 : Int64)) + ((((y0 - (((y0.toUInt64 >>> ((1 : Int32).toInt64.toUInt64 &&& Int64.toUInt64 63)).toInt64) &&& (6148914691236517205 : Int64))).toUInt64 >>> ((2 : Int32).toInt64.toUInt64 &&& Int64.toUInt64 63)).toInt64) &&& (3689348814741910323 : Int64))) + (((((y0 - (((y0.toUInt64 >>> ((1 : Int32).toInt64.toUInt64 &&& Int64.toUInt64 63)).toInt64) &&& (6148914691236517205 : Int64))) &&& (3689348814741910323 : Int64)) + ((((y0 - (((y0.toUInt64 >>> ((1 : Int32).toInt64.toUInt64 &&& Int64.toUInt64 63)).toInt64) &&& (6148914691236517205 : Int64))).toUInt64 >>> ((2 : Int32).toInt64.toUInt64 &&& Int64.toUInt64 63)).toInt64) &&& (3689348814741910323 : Int64))).toUInt64 >>> ((4 : Int32).toInt64.toUInt64 &&& Int64.toUInt64 63)).toInt64)) &&& (1085102592571150095 : Int64)).toUInt64 >>> ((8 : Int32).toInt64.toUInt64 &&& Int64.toUInt64 63)).toInt64)) + ((((((((y0 - (((y0.toUInt64 >>> ((1 : Int32).toInt64.toUInt64 &&& Int64.toUInt64 63)).toInt64) &&& (6148914691236517205 : Int64))) &&& (3689348814741910323 : Int64)) + ((((y0 - (((y0.toUInt64 >>> ((1 : Int32).toInt64.toUInt64 &&& Int64.toUInt64 63)).toInt64) &&& (6148914691236517205 : Int64))).toUInt64 >>> ((2 : Int32).toInt64.toUInt64 &&& Int64.toUInt64 63)).toInt64) &&& (3689348814741910323 : Int64))) + (((((y0 - (((y0.toUInt64 >>> ((1 : Int32).toInt64.toUInt64 &&& Int64.toUInt64 63)).toInt64) &&& (6148914691236517205 : Int64))) &&& (3689348814741910323 : Int64)) + ((((y0 - (((y0.toUInt64 >>> ((1 : Int32).toInt64.toUInt64 &&& Int64.toUInt64 63)).toInt64) &&& (6148914691236517205 : Int64))).toUInt64 >>> ((2 : Int32).toInt64.toUInt64 &&& Int64.toUInt64 63)).toInt64) &&& (3689348814741910323 : Int64))).toUInt64 >>> ((4 : Int32).toInt64.toUInt64 &&& Int64.toUInt64 63)).toInt64)) &&& (1085102592571150095 : Int64)) + (((((((y0 - (((y0.toUInt64 >>> ((1 : Int32).toInt64.toUInt64 &&& Int64.toUInt64 63)).toInt64) &&& (6148914691236517205 : Int64))) &&& (3689348814741910323 : Int64)) + ((((y0 - (((y0.toUInt64 >>> ((1 : Int32).toInt64.toUInt64 &&& Int64.toUInt64 63)).toInt64) &&& (6148914691236517205 : Int64))).toUInt64 >>> ((2 : Int32).toInt64.toUInt64 &&& Int64.toUInt64 63)).toInt64) &&& (3689348814741910323 : Int64))) + (((((y0 - (((y0.toUInt64 >>> ((1 : Int32).toInt64.toUInt64 &&& Int64.toUInt64 63)).toInt64) &&& (6148914691236517205 : Int64))) &&& (3689348814741910323 : Int64)) + ((((y0 - (((y0.toUInt64 >>> ((1 : Int32).toInt64.toUInt64 &&& Int64.toUInt64 63)).toInt64) &&& (6148914691236517205 : Int64))).toUInt64 >>> ((2 : Int32).toInt64.toUInt64 &&& Int64.toUInt64 63)).toInt64) &&& (3689348814741910323 : Int64))).toUInt64 >>> ((4 : Int32).toInt64.toUInt64 &&& Int64.toUInt64 63)).toInt64)) &&& (1085102592571150095 : Int64)).toUInt64 >>> ((8 : Int32).toInt64.toUInt64 &&& Int64.toUInt64 63)).toInt64)).toUInt64 >>> ((16 : Int32).toInt64.toUInt64 &&& Int64.toUInt64 63)).toInt64)) + (((((((((y0 - (((y0.toUInt64 >>> ((1 : Int32).toInt64.toUInt64 &&& Int64.toUInt64 63)).toInt64) &&& (6148914691236517205 : Int64))) &&& (3689348814741910323 : Int64)) + ((((y0 - (((y0.toUInt64 >>> ((1 : Int32).toInt64.toUInt64 &&& Int64.toUInt64 63)).toInt64) &&& (6148914691236517205 : Int64))).toUInt64 >>> ((2 : Int32).toInt64.toUInt64 &&& Int64.toUInt64 63)).toInt64) &&& (3689348814741910323 : Int64))) + (((((y0 - (((y0.toUInt64 >>> ((1 : Int32).toInt64.toUInt64 &&& Int64.toUInt64 63)).toInt64) &&& (6148914691236517205 : Int64))) &&& (3689348814741910323 : Int64)) + ((((y0 - (((y0.toUInt64 >>> ((1 : Int32).toInt64.toUInt64 &&& Int64.toUInt64 63)).toInt64) &&& (6148914691236517205 : Int64))).toUInt64 >>> ((2 : Int32).toInt64.toUInt64 &&& Int64.toUInt64 63)).toInt64) &&& (3689348814741910323 : Int64))).toUInt64 >>> ((4 : Int32).toInt64.toUInt64 &&& Int64.toUInt64 63)).toInt64)) &&& (1085102592571150095 : Int64)) + (((((((y0 - (((y0.toUInt64 >>> ((1 : Int32).toInt64.toUInt64 &&& Int64.toUInt64 63)).toInt64) &&& (6148914691236517205 : Int64))) &&& (3689348814741910323 : Int64)) + ((((y0 - (((y0.toUInt64 >>> ((1 : Int32).toInt64.toUInt64 &&& Int64.toUInt64 63)).toInt64) &&& (6148914691236517205 : Int64))).toUInt64 >>> ((2 : Int32).toInt64.toUInt64 &&& Int64.toUInt64 63)).toInt64) &&& (3689348814741910323 : Int64))) + (((((y0 - (((y0.toUInt64 >>> ((1 : Int32).toInt64.toUInt64 &&& Int64.toUInt64 63)).toInt64) &&& (6148914691236517205 : Int64))) &&& (3689348814741910323 : Int64)) + ((((y0 - (((y0.toUInt64 >>> ((1 : Int32).toInt64.toUInt64 &&& Int64.toUInt64 63)).toInt64) &&& (6148914691236517205 : Int64))).toUInt64 >>> ((2 : Int32).toInt64.toUInt64 &&& Int64.toUInt64 63)).toInt64) &&& (3689348814741910323 : Int64))).toUInt64 >>> ((4 : Int32).toInt64.toUInt64 &&& Int64.toUInt64 63)).toInt64)) &&& (1085102592571150095 : Int64)).toUInt64 >>> ((8 : Int32).toInt64.toUInt64 &&& Int64.toUInt64 63)).toInt64)) + ((((((((y0 - (((y0.toUInt64 >>> ((1 : Int32).toInt64.toUInt64 &&& Int64.toUInt64 63)).toInt64) &&& (6148914691236517205 : Int64))) &&& (3689348814741910323 : Int64)) + ((((y0 - (((y0.toUInt64 >>> ((1 : Int32).toInt64.toUInt64 &&& Int64.toUInt64 63)).toInt64) &&& (6148914691236517205 : Int64))).toUInt64 >>> ((2 : Int32).toInt64.toUInt64 &&& Int64.toUInt64 63)).toInt64) &&& (3689348814741910323 : Int64))) + (((((y0 - (((y0.toUInt64 >>> ((1 : Int32).toInt64.toUInt64 &&& Int64.toUInt64 63)).toInt64) &&& (6148914691236517205 : Int64))) &&& (3689348814741910323 : Int64)) + ((((y0 - (((y0.toUInt64 >>> ((1 : Int32).toInt64.toUInt64 &&& Int64.toUInt64 63)).toInt64) &&& (6148914691236517205 : Int64))).toUInt64 >>> ((2 : Int32).toInt64.toUInt64 &&& Int64.toUInt64 63)).toInt64) &&& (3689348814741910323 : Int64))).toUInt64 >>> ((4 : Int32).toInt64.toUInt64 &&& Int64.toUInt64 63)).toInt64)) &&& (1085102592571150095 : Int64)) + (((((((y0 - (((y0.toUInt64 >>> ((1 : Int32).toInt64.toUInt64 &&& Int64.toUInt64 63)).toInt64) &&& (6148914691236517205 : Int64))) &&& (3689348814741910323 : Int64)) + ((((y0 - (((y0.toUInt64 >>> ((1 : Int32).toInt64.toUInt64 &&& Int64.toUInt64 63)).toInt64) &&& (6148914691236517205 : Int64))).toUInt64 >>> ((2 : Int32).toInt64.toUInt64 &&& Int64.toUInt64 63)).toInt64) &&& (3689348814741910323 : Int64))) + (((((y0 - (((y0.toUInt64 >>> ((1 : Int32).toInt64.toUInt64 &&& Int64.toUInt64 63)).toInt64) &&& (6148914691236517205 : Int64))) &&& (3689348814741910323 : Int64)) + ((((y0 - (((y0.toUInt64 >>> ((1 : Int32).toInt64.toUInt64 &&& Int64.toUInt64 63)).toInt64) &&& (6148914691236517205 : Int64))).toUInt64 >>> ((2 : Int32).toInt64.toUInt64 &&& Int64.toUInt64 63)).toInt64) &&& (3689348814741910323 : Int64))).toUInt64 >>> ((4 : Int32).toInt64.toUInt64 &&& Int64.toUInt64 63)).toInt64)) &&& (1085102592571150095 : Int64)).toUInt64 >>> ((8 : Int32).toInt64.toUInt64 &&& Int64.toUInt64 63)).toInt64)).toUInt64 >>> ((16 : Int32).toInt64.toUInt64 &&& Int64.toUInt64 63)).toInt64)).toUInt64 >>> ((32 : Int32).toInt64.toUInt64 &&& Int64.toUInt64 63)).toInt64)).toInt32) &&& (127 : Int32), u)
set_option maxHeartbeats 4000000 in
set_option maxRecDepth 100000 in
theorem t_Long_bitCount (C : gX "java/lang/Long" prog_19_method_50_code 2 (some .int) 0 0 R cells slots cy D ρ A p s m args meth c) {y0 : Int64} {u : gSt} {z : (Int32 × gSt)} (hM : M_Long_bitCount y0 u = some z) (hR : gRtI p l e R s m args below meth c Q H0 cells slots cy D ρ A prog_19_method_50_code z.1 z.2) : gAt p l e R s m args below meth c Q H0 cells slots cy D ρ A 2 0 [(0, .long y0)] [] u := by
  intro ls H locs hl hP hS
  have hx := C.1
  have hb := C.2.1
  unfold M_Long_bitCount at hM
  refine lv_lload_n hx hb d_Long_bitCount_0 rfl (lv_at hl 0 rfl) ?_
  refine lv_lload_n hx hb d_Long_bitCount_1 rfl (lv_at hl 0 rfl) ?_
  refine lv_iconst (v := (1 : Int32)) hx hb d_Long_bitCount_2 (by decide) ?_
  refine lv_lushr (v := (y0.toUInt64 >>> ((1 : Int32).toInt64.toUInt64 &&& Int64.toUInt64 63)).toInt64) hx hb d_Long_bitCount_3 rfl ?_
  refine lv_ldc2 (v := 6148914691236517205) hx hb C.2.2.2.2.1 (C.2.2.2.2.2.1 _ (gWs_at 754 (by decide +kernel) (by decide +kernel))) d_Long_bitCount_4 ?_
  refine lv_land hx hb d_Long_bitCount_7 ?_
  refine lv_lsub hx hb d_Long_bitCount_8 ?_
  refine lv_lstore_n (lv' := [(0, .long (y0 - (((y0.toUInt64 >>> ((1 : Int32).toInt64.toUInt64 &&& Int64.toUInt64 63)).toInt64) &&& (6148914691236517205 : Int64))))]) hx hb d_Long_bitCount_9 rfl hl (by decide) rfl (fun ls hl => ?_)
  refine lv_lload_n hx hb d_Long_bitCount_10 rfl (lv_at hl 0 rfl) ?_
  refine lv_ldc2 (v := 3689348814741910323) hx hb C.2.2.2.2.1 (C.2.2.2.2.2.1 _ (gWs_at 755 (by decide +kernel) (by decide +kernel))) d_Long_bitCount_11 ?_
  refine lv_land hx hb d_Long_bitCount_14 ?_
  refine lv_lload_n hx hb d_Long_bitCount_15 rfl (lv_at hl 0 rfl) ?_
  refine lv_iconst (v := (2 : Int32)) hx hb d_Long_bitCount_16 (by decide) ?_
  refine lv_lushr (v := ((y0 - (((y0.toUInt64 >>> ((1 : Int32).toInt64.toUInt64 &&& Int64.toUInt64 63)).toInt64) &&& (6148914691236517205 : Int64))).toUInt64 >>> ((2 : Int32).toInt64.toUInt64 &&& Int64.toUInt64 63)).toInt64) hx hb d_Long_bitCount_17 rfl ?_
  refine lv_ldc2 (v := 3689348814741910323) hx hb C.2.2.2.2.1 (C.2.2.2.2.2.1 _ (gWs_at 755 (by decide +kernel) (by decide +kernel))) d_Long_bitCount_18 ?_
  refine lv_land hx hb d_Long_bitCount_21 ?_
  refine lv_ladd hx hb d_Long_bitCount_22 ?_
  refine lv_lstore_n (lv' := [(0, .long (((y0 - (((y0.toUInt64 >>> ((1 : Int32).toInt64.toUInt64 &&& Int64.toUInt64 63)).toInt64) &&& (6148914691236517205 : Int64))) &&& (3689348814741910323 : Int64)) + ((((y0 - (((y0.toUInt64 >>> ((1 : Int32).toInt64.toUInt64 &&& Int64.toUInt64 63)).toInt64) &&& (6148914691236517205 : Int64))).toUInt64 >>> ((2 : Int32).toInt64.toUInt64 &&& Int64.toUInt64 63)).toInt64) &&& (3689348814741910323 : Int64))))]) hx hb d_Long_bitCount_23 rfl hl (by decide) rfl (fun ls hl => ?_)
  refine lv_lload_n hx hb d_Long_bitCount_24 rfl (lv_at hl 0 rfl) ?_
  refine lv_lload_n hx hb d_Long_bitCount_25 rfl (lv_at hl 0 rfl) ?_
  refine lv_iconst (v := (4 : Int32)) hx hb d_Long_bitCount_26 (by decide) ?_
  refine lv_lushr (v := ((((y0 - (((y0.toUInt64 >>> ((1 : Int32).toInt64.toUInt64 &&& Int64.toUInt64 63)).toInt64) &&& (6148914691236517205 : Int64))) &&& (3689348814741910323 : Int64)) + ((((y0 - (((y0.toUInt64 >>> ((1 : Int32).toInt64.toUInt64 &&& Int64.toUInt64 63)).toInt64) &&& (6148914691236517205 : Int64))).toUInt64 >>> ((2 : Int32).toInt64.toUInt64 &&& Int64.toUInt64 63)).toInt64) &&& (3689348814741910323 : Int64))).toUInt64 >>> ((4 : Int32).toInt64.toUInt64 &&& Int64.toUInt64 63)).toInt64) hx hb d_Long_bitCount_27 rfl ?_
  refine lv_ladd hx hb d_Long_bitCount_28 ?_
  refine lv_ldc2 (v := 1085102592571150095) hx hb C.2.2.2.2.1 (C.2.2.2.2.2.1 _ (gWs_at 756 (by decide +kernel) (by decide +kernel))) d_Long_bitCount_29 ?_
  refine lv_land hx hb d_Long_bitCount_32 ?_
  refine lv_lstore_n (lv' := [(0, .long (((((y0 - (((y0.toUInt64 >>> ((1 : Int32).toInt64.toUInt64 &&& Int64.toUInt64 63)).toInt64) &&& (6148914691236517205 : Int64))) &&& (3689348814741910323 : Int64)) + ((((y0 - (((y0.toUInt64 >>> ((1 : Int32).toInt64.toUInt64 &&& Int64.toUInt64 63)).toInt64) &&& (6148914691236517205 : Int64))).toUInt64 >>> ((2 : Int32).toInt64.toUInt64 &&& Int64.toUInt64 63)).toInt64) &&& (3689348814741910323 : Int64))) + (((((y0 - (((y0.toUInt64 >>> ((1 : Int32).toInt64.toUInt64 &&& Int64.toUInt64 63)).toInt64) &&& (6148914691236517205 : Int64))) &&& (3689348814741910323 : Int64)) + ((((y0 - (((y0.toUInt64 >>> ((1 : Int32).toInt64.toUInt64 &&& Int64.toUInt64 63)).toInt64) &&& (6148914691236517205 : Int64))).toUInt64 >>> ((2 : Int32).toInt64.toUInt64 &&& Int64.toUInt64 63)).toInt64) &&& (3689348814741910323 : Int64))).toUInt64 >>> ((4 : Int32).toInt64.toUInt64 &&& Int64.toUInt64 63)).toInt64)) &&& (1085102592571150095 : Int64)))]) hx hb d_Long_bitCount_33 rfl hl (by decide) rfl (fun ls hl => ?_)
  refine lv_lload_n hx hb d_Long_bitCount_34 rfl (lv_at hl 0 rfl) ?_
  refine lv_lload_n hx hb d_Long_bitCount_35 rfl (lv_at hl 0 rfl) ?_
  refine lv_bipush (v := (8 : Int32)) hx hb d_Long_bitCount_36 (by decide) ?_
  refine lv_lushr (v := ((((((y0 - (((y0.toUInt64 >>> ((1 : Int32).toInt64.toUInt64 &&& Int64.toUInt64 63)).toInt64) &&& (6148914691236517205 : Int64))) &&& (3689348814741910323 : Int64)) + ((((y0 - (((y0.toUInt64 >>> ((1 : Int32).toInt64.toUInt64 &&& Int64.toUInt64 63)).toInt64) &&& (6148914691236517205 : Int64))).toUInt64 >>> ((2 : Int32).toInt64.toUInt64 &&& Int64.toUInt64 63)).toInt64) &&& (3689348814741910323 : Int64))) + (((((y0 - (((y0.toUInt64 >>> ((1 : Int32).toInt64.toUInt64 &&& Int64.toUInt64 63)).toInt64) &&& (6148914691236517205 : Int64))) &&& (3689348814741910323 : Int64)) + ((((y0 - (((y0.toUInt64 >>> ((1 : Int32).toInt64.toUInt64 &&& Int64.toUInt64 63)).toInt64) &&& (6148914691236517205 : Int64))).toUInt64 >>> ((2 : Int32).toInt64.toUInt64 &&& Int64.toUInt64 63)).toInt64) &&& (3689348814741910323 : Int64))).toUInt64 >>> ((4 : Int32).toInt64.toUInt64 &&& Int64.toUInt64 63)).toInt64)) &&& (1085102592571150095 : Int64)).toUInt64 >>> ((8 : Int32).toInt64.toUInt64 &&& Int64.toUInt64 63)).toInt64) hx hb d_Long_bitCount_38 rfl ?_
  refine lv_ladd hx hb d_Long_bitCount_39 ?_
  refine lv_lstore_n (lv' := [(0, .long ((((((y0 - (((y0.toUInt64 >>> ((1 : Int32).toInt64.toUInt64 &&& Int64.toUInt64 63)).toInt64) &&& (6148914691236517205 : Int64))) &&& (3689348814741910323 : Int64)) + ((((y0 - (((y0.toUInt64 >>> ((1 : Int32).toInt64.toUInt64 &&& Int64.toUInt64 63)).toInt64) &&& (6148914691236517205 : Int64))).toUInt64 >>> ((2 : Int32).toInt64.toUInt64 &&& Int64.toUInt64 63)).toInt64) &&& (3689348814741910323 : Int64))) + (((((y0 - (((y0.toUInt64 >>> ((1 : Int32).toInt64.toUInt64 &&& Int64.toUInt64 63)).toInt64) &&& (6148914691236517205 : Int64))) &&& (3689348814741910323 : Int64)) + ((((y0 - (((y0.toUInt64 >>> ((1 : Int32).toInt64.toUInt64 &&& Int64.toUInt64 63)).toInt64) &&& (6148914691236517205 : Int64))).toUInt64 >>> ((2 : Int32).toInt64.toUInt64 &&& Int64.toUInt64 63)).toInt64) &&& (3689348814741910323 : Int64))).toUInt64 >>> ((4 : Int32).toInt64.toUInt64 &&& Int64.toUInt64 63)).toInt64)) &&& (1085102592571150095 : Int64)) + (((((((y0 - (((y0.toUInt64 >>> ((1 : Int32).toInt64.toUInt64 &&& Int64.toUInt64 63)).toInt64) &&& (6148914691236517205 : Int64))) &&& (3689348814741910323 : Int64)) + ((((y0 - (((y0.toUInt64 >>> ((1 : Int32).toInt64.toUInt64 &&& Int64.toUInt64 63)).toInt64) &&& (6148914691236517205 : Int64))).toUInt64 >>> ((2 : Int32).toInt64.toUInt64 &&& Int64.toUInt64 63)).toInt64) &&& (3689348814741910323 : Int64))) + (((((y0 - (((y0.toUInt64 >>> ((1 : Int32).toInt64.toUInt64 &&& Int64.toUInt64 63)).toInt64) &&& (6148914691236517205 : Int64))) &&& (3689348814741910323 : Int64)) + ((((y0 - (((y0.toUInt64 >>> ((1 : Int32).toInt64.toUInt64 &&& Int64.toUInt64 63)).toInt64) &&& (6148914691236517205 : Int64))).toUInt64 >>> ((2 : Int32).toInt64.toUInt64 &&& Int64.toUInt64 63)).toInt64) &&& (3689348814741910323 : Int64))).toUInt64 >>> ((4 : Int32).toInt64.toUInt64 &&& Int64.toUInt64 63)).toInt64)) &&& (1085102592571150095 : Int64)).toUInt64 >>> ((8 : Int32).toInt64.toUInt64 &&& Int64.toUInt64 63)).toInt64)))]) hx hb d_Long_bitCount_40 rfl hl (by decide) rfl (fun ls hl => ?_)
  refine lv_lload_n hx hb d_Long_bitCount_41 rfl (lv_at hl 0 rfl) ?_
  refine lv_lload_n hx hb d_Long_bitCount_42 rfl (lv_at hl 0 rfl) ?_
  refine lv_bipush (v := (16 : Int32)) hx hb d_Long_bitCount_43 (by decide) ?_
  refine lv_lushr (v := (((((((y0 - (((y0.toUInt64 >>> ((1 : Int32).toInt64.toUInt64 &&& Int64.toUInt64 63)).toInt64) &&& (6148914691236517205 : Int64))) &&& (3689348814741910323 : Int64)) + ((((y0 - (((y0.toUInt64 >>> ((1 : Int32).toInt64.toUInt64 &&& Int64.toUInt64 63)).toInt64) &&& (6148914691236517205 : Int64))).toUInt64 >>> ((2 : Int32).toInt64.toUInt64 &&& Int64.toUInt64 63)).toInt64) &&& (3689348814741910323 : Int64))) + (((((y0 - (((y0.toUInt64 >>> ((1 : Int32).toInt64.toUInt64 &&& Int64.toUInt64 63)).toInt64) &&& (6148914691236517205 : Int64))) &&& (3689348814741910323 : Int64)) + ((((y0 - (((y0.toUInt64 >>> ((1 : Int32).toInt64.toUInt64 &&& Int64.toUInt64 63)).toInt64) &&& (6148914691236517205 : Int64))).toUInt64 >>> ((2 : Int32).toInt64.toUInt64 &&& Int64.toUInt64 63)).toInt64) &&& (3689348814741910323 : Int64))).toUInt64 >>> ((4 : Int32).toInt64.toUInt64 &&& Int64.toUInt64 63)).toInt64)) &&& (1085102592571150095 : Int64)) + (((((((y0 - (((y0.toUInt64 >>> ((1 : Int32).toInt64.toUInt64 &&& Int64.toUInt64 63)).toInt64) &&& (6148914691236517205 : Int64))) &&& (3689348814741910323 : Int64)) + ((((y0 - (((y0.toUInt64 >>> ((1 : Int32).toInt64.toUInt64 &&& Int64.toUInt64 63)).toInt64) &&& (6148914691236517205 : Int64))).toUInt64 >>> ((2 : Int32).toInt64.toUInt64 &&& Int64.toUInt64 63)).toInt64) &&& (3689348814741910323 : Int64))) + (((((y0 - (((y0.toUInt64 >>> ((1 : Int32).toInt64.toUInt64 &&& Int64.toUInt64 63)).toInt64) &&& (6148914691236517205 : Int64))) &&& (3689348814741910323 : Int64)) + ((((y0 - (((y0.toUInt64 >>> ((1 : Int32).toInt64.toUInt64 &&& Int64.toUInt64 63)).toInt64) &&& (6148914691236517205 : Int64))).toUInt64 >>> ((2 : Int32).toInt64.toUInt64 &&& Int64.toUInt64 63)).toInt64) &&& (3689348814741910323 : Int64))).toUInt64 >>> ((4 : Int32).toInt64.toUInt64 &&& Int64.toUInt64 63)).toInt64)) &&& (1085102592571150095 : Int64)).toUInt64 >>> ((8 : Int32).toInt64.toUInt64 &&& Int64.toUInt64 63)).toInt64)).toUInt64 >>> ((16 : Int32).toInt64.toUInt64 &&& Int64.toUInt64 63)).toInt64) hx hb d_Long_bitCount_45 rfl ?_
  refine lv_ladd hx hb d_Long_bitCount_46 ?_
  refine lv_lstore_n (lv' := [(0, .long (((((((y0 - (((y0.toUInt64 >>> ((1 : Int32).toInt64.toUInt64 &&& Int64.toUInt64 63)).toInt64) &&& (6148914691236517205 : Int64))) &&& (3689348814741910323 : Int64)) + ((((y0 - (((y0.toUInt64 >>> ((1 : Int32).toInt64.toUInt64 &&& Int64.toUInt64 63)).toInt64) &&& (6148914691236517205 : Int64))).toUInt64 >>> ((2 : Int32).toInt64.toUInt64 &&& Int64.toUInt64 63)).toInt64) &&& (3689348814741910323 : Int64))) + (((((y0 - (((y0.toUInt64 >>> ((1 : Int32).toInt64.toUInt64 &&& Int64.toUInt64 63)).toInt64) &&& (6148914691236517205 : Int64))) &&& (3689348814741910323 : Int64)) + ((((y0 - (((y0.toUInt64 >>> ((1 : Int32).toInt64.toUInt64 &&& Int64.toUInt64 63)).toInt64) &&& (6148914691236517205 : Int64))).toUInt64 >>> ((2 : Int32).toInt64.toUInt64 &&& Int64.toUInt64 63)).toInt64) &&& (3689348814741910323 : Int64))).toUInt64 >>> ((4 : Int32).toInt64.toUInt64 &&& Int64.toUInt64 63)).toInt64)) &&& (1085102592571150095 : Int64)) + (((((((y0 - (((y0.toUInt64 >>> ((1 : Int32).toInt64.toUInt64 &&& Int64.toUInt64 63)).toInt64) &&& (6148914691236517205 : Int64))) &&& (3689348814741910323 : Int64)) + ((((y0 - (((y0.toUInt64 >>> ((1 : Int32).toInt64.toUInt64 &&& Int64.toUInt64 63)).toInt64) &&& (6148914691236517205 : Int64))).toUInt64 >>> ((2 : Int32).toInt64.toUInt64 &&& Int64.toUInt64 63)).toInt64) &&& (3689348814741910323 : Int64))) + (((((y0 - (((y0.toUInt64 >>> ((1 : Int32).toInt64.toUInt64 &&& Int64.toUInt64 63)).toInt64) &&& (6148914691236517205 : Int64))) &&& (3689348814741910323 : Int64)) + ((((y0 - (((y0.toUInt64 >>> ((1 : Int32).toInt64.toUInt64 &&& Int64.toUInt64 63)).toInt64) &&& (6148914691236517205 : Int64))).toUInt64 >>> ((2 : Int32).toInt64.toUInt64 &&& Int64.toUInt64 63)).toInt64) &&& (3689348814741910323 : Int64))).toUInt64 >>> ((4 : Int32).toInt64.toUInt64 &&& Int64.toUInt64 63)).toInt64)) &&& (1085102592571150095 : Int64)).toUInt64 >>> ((8 : Int32).toInt64.toUInt64 &&& Int64.toUInt64 63)).toInt64)) + ((((((((y0 - (((y0.toUInt64 >>> ((1 : Int32).toInt64.toUInt64 &&& Int64.toUInt64 63)).toInt64) &&& (6148914691236517205 : Int64))) &&& (3689348814741910323 : Int64)) + ((((y0 - (((y0.toUInt64 >>> ((1 : Int32).toInt64.toUInt64 &&& Int64.toUInt64 63)).toInt64) &&& (6148914691236517205 : Int64))).toUInt64 >>> ((2 : Int32).toInt64.toUInt64 &&& Int64.toUInt64 63)).toInt64) &&& (3689348814741910323 : Int64))) + (((((y0 - (((y0.toUInt64 >>> ((1 : Int32).toInt64.toUInt64 &&& Int64.toUInt64 63)).toInt64) &&& (6148914691236517205 : Int64))) &&& (3689348814741910323 : Int64)) + ((((y0 - (((y0.toUInt64 >>> ((1 : Int32).toInt64.toUInt64 &&& Int64.toUInt64 63)).toInt64) &&& (6148914691236517205 : Int64))).toUInt64 >>> ((2 : Int32).toInt64.toUInt64 &&& Int64.toUInt64 63)).toInt64) &&& (3689348814741910323 : Int64))).toUInt64 >>> ((4 : Int32).toInt64.toUInt64 &&& Int64.toUInt64 63)).toInt64)) &&& (1085102592571150095 : Int64)) + (((((((y0 - (((y0.toUInt64 >>> ((1 : Int32).toInt64.toUInt64 &&& Int64.toUInt64 63)).toInt64) &&& (6148914691236517205 : Int64))) &&& (3689348814741910323 : Int64)) + ((((y0 - (((y0.toUInt64 >>> ((1 : Int32).toInt64.toUInt64 &&& Int64.toUInt64 63)).toInt64) &&& (6148914691236517205 : Int64))).toUInt64 >>> ((2 : Int32).toInt64.toUInt64 &&& Int64.toUInt64 63)).toInt64) &&& (3689348814741910323 : Int64))) + (((((y0 - (((y0.toUInt64 >>> ((1 : Int32).toInt64.toUInt64 &&& Int64.toUInt64 63)).toInt64) &&& (6148914691236517205 : Int64))) &&& (3689348814741910323 : Int64)) + ((((y0 - (((y0.toUInt64 >>> ((1 : Int32).toInt64.toUInt64 &&& Int64.toUInt64 63)).toInt64) &&& (6148914691236517205 : Int64))).toUInt64 >>> ((2 : Int32).toInt64.toUInt64 &&& Int64.toUInt64 63)).toInt64) &&& (3689348814741910323 : Int64))).toUInt64 >>> ((4 : Int32).toInt64.toUInt64 &&& Int64.toUInt64 63)).toInt64)) &&& (1085102592571150095 : Int64)).toUInt64 >>> ((8 : Int32).toInt64.toUInt64 &&& Int64.toUInt64 63)).toInt64)).toUInt64 >>> ((16 : Int32).toInt64.toUInt64 &&& Int64.toUInt64 63)).toInt64)))]) hx hb d_Long_bitCount_47 rfl hl (by decide) rfl (fun ls hl => ?_)
  refine lv_lload_n hx hb d_Long_bitCount_48 rfl (lv_at hl 0 rfl) ?_
  refine lv_lload_n hx hb d_Long_bitCount_49 rfl (lv_at hl 0 rfl) ?_
  refine lv_bipush (v := (32 : Int32)) hx hb d_Long_bitCount_50 (by decide) ?_
  refine lv_lushr (v := ((((((((y0 - (((y0.toUInt64 >>> ((1 : Int32).toInt64.toUInt64 &&& Int64.toUInt64 63)).toInt64) &&& (6148914691236517205 : Int64))) &&& (3689348814741910323 : Int64)) + ((((y0 - (((y0.toUInt64 >>> ((1 : Int32).toInt64.toUInt64 &&& Int64.toUInt64 63)).toInt64) &&& (6148914691236517205 : Int64))).toUInt64 >>> ((2 : Int32).toInt64.toUInt64 &&& Int64.toUInt64 63)).toInt64) &&& (3689348814741910323 : Int64))) + (((((y0 - (((y0.toUInt64 >>> ((1 : Int32).toInt64.toUInt64 &&& Int64.toUInt64 63)).toInt64) &&& (6148914691236517205 : Int64))) &&& (3689348814741910323 : Int64)) + ((((y0 - (((y0.toUInt64 >>> ((1 : Int32).toInt64.toUInt64 &&& Int64.toUInt64 63)).toInt64) &&& (6148914691236517205 : Int64))).toUInt64 >>> ((2 : Int32).toInt64.toUInt64 &&& Int64.toUInt64 63)).toInt64) &&& (3689348814741910323 : Int64))).toUInt64 >>> ((4 : Int32).toInt64.toUInt64 &&& Int64.toUInt64 63)).toInt64)) &&& (1085102592571150095 : Int64)) + (((((((y0 - (((y0.toUInt64 >>> ((1 : Int32).toInt64.toUInt64 &&& Int64.toUInt64 63)).toInt64) &&& (6148914691236517205 : Int64))) &&& (3689348814741910323 : Int64)) + ((((y0 - (((y0.toUInt64 >>> ((1 : Int32).toInt64.toUInt64 &&& Int64.toUInt64 63)).toInt64) &&& (6148914691236517205 : Int64))).toUInt64 >>> ((2 : Int32).toInt64.toUInt64 &&& Int64.toUInt64 63)).toInt64) &&& (3689348814741910323 : Int64))) + (((((y0 - (((y0.toUInt64 >>> ((1 : Int32).toInt64.toUInt64 &&& Int64.toUInt64 63)).toInt64) &&& (6148914691236517205 : Int64))) &&& (3689348814741910323 : Int64)) + ((((y0 - (((y0.toUInt64 >>> ((1 : Int32).toInt64.toUInt64 &&& Int64.toUInt64 63)).toInt64) &&& (6148914691236517205 : Int64))).toUInt64 >>> ((2 : Int32).toInt64.toUInt64 &&& Int64.toUInt64 63)).toInt64) &&& (3689348814741910323 : Int64))).toUInt64 >>> ((4 : Int32).toInt64.toUInt64 &&& Int64.toUInt64 63)).toInt64)) &&& (1085102592571150095 : Int64)).toUInt64 >>> ((8 : Int32).toInt64.toUInt64 &&& Int64.toUInt64 63)).toInt64)) + ((((((((y0 - (((y0.toUInt64 >>> ((1 : Int32).toInt64.toUInt64 &&& Int64.toUInt64 63)).toInt64) &&& (6148914691236517205 : Int64))) &&& (3689348814741910323 : Int64)) + ((((y0 - (((y0.toUInt64 >>> ((1 : Int32).toInt64.toUInt64 &&& Int64.toUInt64 63)).toInt64) &&& (6148914691236517205 : Int64))).toUInt64 >>> ((2 : Int32).toInt64.toUInt64 &&& Int64.toUInt64 63)).toInt64) &&& (3689348814741910323 : Int64))) + (((((y0 - (((y0.toUInt64 >>> ((1 : Int32).toInt64.toUInt64 &&& Int64.toUInt64 63)).toInt64) &&& (6148914691236517205 : Int64))) &&& (3689348814741910323 : Int64)) + ((((y0 - (((y0.toUInt64 >>> ((1 : Int32).toInt64.toUInt64 &&& Int64.toUInt64 63)).toInt64) &&& (6148914691236517205 : Int64))).toUInt64 >>> ((2 : Int32).toInt64.toUInt64 &&& Int64.toUInt64 63)).toInt64) &&& (3689348814741910323 : Int64))).toUInt64 >>> ((4 : Int32).toInt64.toUInt64 &&& Int64.toUInt64 63)).toInt64)) &&& (1085102592571150095 : Int64)) + (((((((y0 - (((y0.toUInt64 >>> ((1 : Int32).toInt64.toUInt64 &&& Int64.toUInt64 63)).toInt64) &&& (6148914691236517205 : Int64))) &&& (3689348814741910323 : Int64)) + ((((y0 - (((y0.toUInt64 >>> ((1 : Int32).toInt64.toUInt64 &&& Int64.toUInt64 63)).toInt64) &&& (6148914691236517205 : Int64))).toUInt64 >>> ((2 : Int32).toInt64.toUInt64 &&& Int64.toUInt64 63)).toInt64) &&& (3689348814741910323 : Int64))) + (((((y0 - (((y0.toUInt64 >>> ((1 : Int32).toInt64.toUInt64 &&& Int64.toUInt64 63)).toInt64) &&& (6148914691236517205 : Int64))) &&& (3689348814741910323 : Int64)) + ((((y0 - (((y0.toUInt64 >>> ((1 : Int32).toInt64.toUInt64 &&& Int64.toUInt64 63)).toInt64) &&& (6148914691236517205 : Int64))).toUInt64 >>> ((2 : Int32).toInt64.toUInt64 &&& Int64.toUInt64 63)).toInt64) &&& (3689348814741910323 : Int64))).toUInt64 >>> ((4 : Int32).toInt64.toUInt64 &&& Int64.toUInt64 63)).toInt64)) &&& (1085102592571150095 : Int64)).toUInt64 >>> ((8 : Int32).toInt64.toUInt64 &&& Int64.toUInt64 63)).toInt64)).toUInt64 >>> ((16 : Int32).toInt64.toUInt64 &&& Int64.toUInt64 63)).toInt64)).toUInt64 >>> ((32 : Int32).toInt64.toUInt64 &&& Int64.toUInt64 63)).toInt64) hx hb d_Long_bitCount_52 rfl ?_
  refine lv_ladd hx hb d_Long_bitCount_53 ?_
  refine lv_lstore_n (lv' := [(0, .long ((((((((y0 - (((y0.toUInt64 >>> ((1 : Int32).toInt64.toUInt64 &&& Int64.toUInt64 63)).toInt64) &&& (6148914691236517205 : Int64))) &&& (3689348814741910323 : Int64)) + ((((y0 - (((y0.toUInt64 >>> ((1 : Int32).toInt64.toUInt64 &&& Int64.toUInt64 63)).toInt64) &&& (6148914691236517205 : Int64))).toUInt64 >>> ((2 : Int32).toInt64.toUInt64 &&& Int64.toUInt64 63)).toInt64) &&& (3689348814741910323 : Int64))) + (((((y0 - (((y0.toUInt64 >>> ((1 : Int32).toInt64.toUInt64 &&& Int64.toUInt64 63)).toInt64) &&& (6148914691236517205 : Int64))) &&& (3689348814741910323 : Int64)) + ((((y0 - (((y0.toUInt64 >>> ((1 : Int32).toInt64.toUInt64 &&& Int64.toUInt64 63)).toInt64) &&& (6148914691236517205 : Int64))).toUInt64 >>> ((2 : Int32).toInt64.toUInt64 &&& Int64.toUInt64 63)).toInt64) &&& (3689348814741910323 : Int64))).toUInt64 >>> ((4 : Int32).toInt64.toUInt64 &&& Int64.toUInt64 63)).toInt64)) &&& (1085102592571150095 : Int64)) + (((((((y0 - (((y0.toUInt64 >>> ((1 : Int32).toInt64.toUInt64 &&& Int64.toUInt64 63)).toInt64) &&& (6148914691236517205 : Int64))) &&& (3689348814741910323 : Int64)) + ((((y0 - (((y0.toUInt64 >>> ((1 : Int32).toInt64.toUInt64 &&& Int64.toUInt64 63)).toInt64) &&& (6148914691236517205 : Int64))).toUInt64 >>> ((2 : Int32).toInt64.toUInt64 &&& Int64.toUInt64 63)).toInt64) &&& (3689348814741910323 : Int64))) + (((((y0 - (((y0.toUInt64 >>> ((1 : Int32).toInt64.toUInt64 &&& Int64.toUInt64 63)).toInt64) &&& (6148914691236517205 : Int64))) &&& (3689348814741910323 : Int64)) + ((((y0 - (((y0.toUInt64 >>> ((1 : Int32).toInt64.toUInt64 &&& Int64.toUInt64 63)).toInt64) &&& (6148914691236517205 : Int64))).toUInt64 >>> ((2 : Int32).toInt64.toUInt64 &&& Int64.toUInt64 63)).toInt64) &&& (3689348814741910323 : Int64))).toUInt64 >>> ((4 : Int32).toInt64.toUInt64 &&& Int64.toUInt64 63)).toInt64)) &&& (1085102592571150095 : Int64)).toUInt64 >>> ((8 : Int32).toInt64.toUInt64 &&& Int64.toUInt64 63)).toInt64)) + ((((((((y0 - (((y0.toUInt64 >>> ((1 : Int32).toInt64.toUInt64 &&& Int64.toUInt64 63)).toInt64) &&& (6148914691236517205 : Int64))) &&& (3689348814741910323 : Int64)) + ((((y0 - (((y0.toUInt64 >>> ((1 : Int32).toInt64.toUInt64 &&& Int64.toUInt64 63)).toInt64) &&& (6148914691236517205 : Int64))).toUInt64 >>> ((2 : Int32).toInt64.toUInt64 &&& Int64.toUInt64 63)).toInt64) &&& (3689348814741910323 : Int64))) + (((((y0 - (((y0.toUInt64 >>> ((1 : Int32).toInt64.toUInt64 &&& Int64.toUInt64 63)).toInt64) &&& (6148914691236517205 : Int64))) &&& (3689348814741910323 : Int64)) + ((((y0 - (((y0.toUInt64 >>> ((1 : Int32).toInt64.toUInt64 &&& Int64.toUInt64 63)).toInt64) &&& (6148914691236517205 : Int64))).toUInt64 >>> ((2 : Int32).toInt64.toUInt64 &&& Int64.toUInt64 63)).toInt64) &&& (3689348814741910323 : Int64))).toUInt64 >>> ((4 : Int32).toInt64.toUInt64 &&& Int64.toUInt64 63)).toInt64)) &&& (1085102592571150095 : Int64)) + (((((((y0 - (((y0.toUInt64 >>> ((1 : Int32).toInt64.toUInt64 &&& Int64.toUInt64 63)).toInt64) &&& (6148914691236517205 : Int64))) &&& (3689348814741910323 : Int64)) + ((((y0 - (((y0.toUInt64 >>> ((1 : Int32).toInt64.toUInt64 &&& Int64.toUInt64 63)).toInt64) &&& (6148914691236517205 : Int64))).toUInt64 >>> ((2 : Int32).toInt64.toUInt64 &&& Int64.toUInt64 63)).toInt64) &&& (3689348814741910323 : Int64))) + (((((y0 - (((y0.toUInt64 >>> ((1 : Int32).toInt64.toUInt64 &&& Int64.toUInt64 63)).toInt64) &&& (6148914691236517205 : Int64))) &&& (3689348814741910323 : Int64)) + ((((y0 - (((y0.toUInt64 >>> ((1 : Int32).toInt64.toUInt64 &&& Int64.toUInt64 63)).toInt64) &&& (6148914691236517205 : Int64))).toUInt64 >>> ((2 : Int32).toInt64.toUInt64 &&& Int64.toUInt64 63)).toInt64) &&& (3689348814741910323 : Int64))).toUInt64 >>> ((4 : Int32).toInt64.toUInt64 &&& Int64.toUInt64 63)).toInt64)) &&& (1085102592571150095 : Int64)).toUInt64 >>> ((8 : Int32).toInt64.toUInt64 &&& Int64.toUInt64 63)).toInt64)).toUInt64 >>> ((16 : Int32).toInt64.toUInt64 &&& Int64.toUInt64 63)).toInt64)) + (((((((((y0 - (((y0.toUInt64 >>> ((1 : Int32).toInt64.toUInt64 &&& Int64.toUInt64 63)).toInt64) &&& (6148914691236517205 : Int64))) &&& (3689348814741910323 : Int64)) + ((((y0 - (((y0.toUInt64 >>> ((1 : Int32).toInt64.toUInt64 &&& Int64.toUInt64 63)).toInt64) &&& (6148914691236517205 : Int64))).toUInt64 >>> ((2 : Int32).toInt64.toUInt64 &&& Int64.toUInt64 63)).toInt64) &&& (3689348814741910323 : Int64))) + (((((y0 - (((y0.toUInt64 >>> ((1 : Int32).toInt64.toUInt64 &&& Int64.toUInt64 63)).toInt64) &&& (6148914691236517205 : Int64))) &&& (3689348814741910323 : Int64)) + ((((y0 - (((y0.toUInt64 >>> ((1 : Int32).toInt64.toUInt64 &&& Int64.toUInt64 63)).toInt64) &&& (6148914691236517205 : Int64))).toUInt64 >>> ((2 : Int32).toInt64.toUInt64 &&& Int64.toUInt64 63)).toInt64) &&& (3689348814741910323 : Int64))).toUInt64 >>> ((4 : Int32).toInt64.toUInt64 &&& Int64.toUInt64 63)).toInt64)) &&& (1085102592571150095 : Int64)) + (((((((y0 - (((y0.toUInt64 >>> ((1 : Int32).toInt64.toUInt64 &&& Int64.toUInt64 63)).toInt64) &&& (6148914691236517205 : Int64))) &&& (3689348814741910323 : Int64)) + ((((y0 - (((y0.toUInt64 >>> ((1 : Int32).toInt64.toUInt64 &&& Int64.toUInt64 63)).toInt64) &&& (6148914691236517205 : Int64))).toUInt64 >>> ((2 : Int32).toInt64.toUInt64 &&& Int64.toUInt64 63)).toInt64) &&& (3689348814741910323 : Int64))) + (((((y0 - (((y0.toUInt64 >>> ((1 : Int32).toInt64.toUInt64 &&& Int64.toUInt64 63)).toInt64) &&& (6148914691236517205 : Int64))) &&& (3689348814741910323 : Int64)) + ((((y0 - (((y0.toUInt64 >>> ((1 : Int32).toInt64.toUInt64 &&& Int64.toUInt64 63)).toInt64) &&& (6148914691236517205 : Int64))).toUInt64 >>> ((2 : Int32).toInt64.toUInt64 &&& Int64.toUInt64 63)).toInt64) &&& (3689348814741910323 : Int64))).toUInt64 >>> ((4 : Int32).toInt64.toUInt64 &&& Int64.toUInt64 63)).toInt64)) &&& (1085102592571150095 : Int64)).toUInt64 >>> ((8 : Int32).toInt64.toUInt64 &&& Int64.toUInt64 63)).toInt64)) + ((((((((y0 - (((y0.toUInt64 >>> ((1 : Int32).toInt64.toUInt64 &&& Int64.toUInt64 63)).toInt64) &&& (6148914691236517205 : Int64))) &&& (3689348814741910323 : Int64)) + ((((y0 - (((y0.toUInt64 >>> ((1 : Int32).toInt64.toUInt64 &&& Int64.toUInt64 63)).toInt64) &&& (6148914691236517205 : Int64))).toUInt64 >>> ((2 : Int32).toInt64.toUInt64 &&& Int64.toUInt64 63)).toInt64) &&& (3689348814741910323 : Int64))) + (((((y0 - (((y0.toUInt64 >>> ((1 : Int32).toInt64.toUInt64 &&& Int64.toUInt64 63)).toInt64) &&& (6148914691236517205 : Int64))) &&& (3689348814741910323 : Int64)) + ((((y0 - (((y0.toUInt64 >>> ((1 : Int32).toInt64.toUInt64 &&& Int64.toUInt64 63)).toInt64) &&& (6148914691236517205 : Int64))).toUInt64 >>> ((2 : Int32).toInt64.toUInt64 &&& Int64.toUInt64 63)).toInt64) &&& (3689348814741910323 : Int64))).toUInt64 >>> ((4 : Int32).toInt64.toUInt64 &&& Int64.toUInt64 63)).toInt64)) &&& (1085102592571150095 : Int64)) + (((((((y0 - (((y0.toUInt64 >>> ((1 : Int32).toInt64.toUInt64 &&& Int64.toUInt64 63)).toInt64) &&& (6148914691236517205 : Int64))) &&& (3689348814741910323 : Int64)) + ((((y0 - (((y0.toUInt64 >>> ((1 : Int32).toInt64.toUInt64 &&& Int64.toUInt64 63)).toInt64) &&& (6148914691236517205 : Int64))).toUInt64 >>> ((2 : Int32).toInt64.toUInt64 &&& Int64.toUInt64 63)).toInt64) &&& (3689348814741910323 : Int64))) + (((((y0 - (((y0.toUInt64 >>> ((1 : Int32).toInt64.toUInt64 &&& Int64.toUInt64 63)).toInt64) &&& (6148914691236517205 : Int64))) &&& (3689348814741910323 : Int64)) + ((((y0 - (((y0.toUInt64 >>> ((1 : Int32).toInt64.toUInt64 &&& Int64.toUInt64 63)).toInt64) &&& (6148914691236517205 : Int64))).toUInt64 >>> ((2 : Int32).toInt64.toUInt64 &&& Int64.toUInt64 63)).toInt64) &&& (3689348814741910323 : Int64))).toUInt64 >>> ((4 : Int32).toInt64.toUInt64 &&& Int64.toUInt64 63)).toInt64)) &&& (1085102592571150095 : Int64)).toUInt64 >>> ((8 : Int32).toInt64.toUInt64 &&& Int64.toUInt64 63)).toInt64)).toUInt64 >>> ((16 : Int32).toInt64.toUInt64 &&& Int64.toUInt64 63)).toInt64)).toUInt64 >>> ((32 : Int32).toInt64.toUInt64 &&& Int64.toUInt64 63)).toInt64)))]) hx hb d_Long_bitCount_54 rfl hl (by decide) rfl (fun ls hl => ?_)
  refine lv_lload_n hx hb d_Long_bitCount_55 rfl (lv_at hl 0 rfl) ?_
  refine lv_l2i (v := ((((((((y0 - (((y0.toUInt64 >>> ((1 : Int32).toInt64.toUInt64 &&& Int64.toUInt64 63)).toInt64) &&& (6148914691236517205 : Int64))) &&& (3689348814741910323 : Int64)) + ((((y0 - (((y0.toUInt64 >>> ((1 : Int32).toInt64.toUInt64 &&& Int64.toUInt64 63)).toInt64) &&& (6148914691236517205 : Int64))).toUInt64 >>> ((2 : Int32).toInt64.toUInt64 &&& Int64.toUInt64 63)).toInt64) &&& (3689348814741910323 : Int64))) + (((((y0 - (((y0.toUInt64 >>> ((1 : Int32).toInt64.toUInt64 &&& Int64.toUInt64 63)).toInt64) &&& (6148914691236517205 : Int64))) &&& (3689348814741910323 : Int64)) + ((((y0 - (((y0.toUInt64 >>> ((1 : Int32).toInt64.toUInt64 &&& Int64.toUInt64 63)).toInt64) &&& (6148914691236517205 : Int64))).toUInt64 >>> ((2 : Int32).toInt64.toUInt64 &&& Int64.toUInt64 63)).toInt64) &&& (3689348814741910323 : Int64))).toUInt64 >>> ((4 : Int32).toInt64.toUInt64 &&& Int64.toUInt64 63)).toInt64)) &&& (1085102592571150095 : Int64)) + (((((((y0 - (((y0.toUInt64 >>> ((1 : Int32).toInt64.toUInt64 &&& Int64.toUInt64 63)).toInt64) &&& (6148914691236517205 : Int64))) &&& (3689348814741910323 : Int64)) + ((((y0 - (((y0.toUInt64 >>> ((1 : Int32).toInt64.toUInt64 &&& Int64.toUInt64 63)).toInt64) &&& (6148914691236517205 : Int64))).toUInt64 >>> ((2 : Int32).toInt64.toUInt64 &&& Int64.toUInt64 63)).toInt64) &&& (3689348814741910323 : Int64))) + (((((y0 - (((y0.toUInt64 >>> ((1 : Int32).toInt64.toUInt64 &&& Int64.toUInt64 63)).toInt64) &&& (6148914691236517205 : Int64))) &&& (3689348814741910323 : Int64)) + ((((y0 - (((y0.toUInt64 >>> ((1 : Int32).toInt64.toUInt64 &&& Int64.toUInt64 63)).toInt64) &&& (6148914691236517205 : Int64))).toUInt64 >>> ((2 : Int32).toInt64.toUInt64 &&& Int64.toUInt64 63)).toInt64) &&& (3689348814741910323 : Int64))).toUInt64 >>> ((4 : Int32).toInt64.toUInt64 &&& Int64.toUInt64 63)).toInt64)) &&& (1085102592571150095 : Int64)).toUInt64 >>> ((8 : Int32).toInt64.toUInt64 &&& Int64.toUInt64 63)).toInt64)) + ((((((((y0 - (((y0.toUInt64 >>> ((1 : Int32).toInt64.toUInt64 &&& Int64.toUInt64 63)).toInt64) &&& (6148914691236517205 : Int64))) &&& (3689348814741910323 : Int64)) + ((((y0 - (((y0.toUInt64 >>> ((1 : Int32).toInt64.toUInt64 &&& Int64.toUInt64 63)).toInt64) &&& (6148914691236517205 : Int64))).toUInt64 >>> ((2 : Int32).toInt64.toUInt64 &&& Int64.toUInt64 63)).toInt64) &&& (3689348814741910323 : Int64))) + (((((y0 - (((y0.toUInt64 >>> ((1 : Int32).toInt64.toUInt64 &&& Int64.toUInt64 63)).toInt64) &&& (6148914691236517205 : Int64))) &&& (3689348814741910323 : Int64)) + ((((y0 - (((y0.toUInt64 >>> ((1 : Int32).toInt64.toUInt64 &&& Int64.toUInt64 63)).toInt64) &&& (6148914691236517205 : Int64))).toUInt64 >>> ((2 : Int32).toInt64.toUInt64 &&& Int64.toUInt64 63)).toInt64) &&& (3689348814741910323 : Int64))).toUInt64 >>> ((4 : Int32).toInt64.toUInt64 &&& Int64.toUInt64 63)).toInt64)) &&& (1085102592571150095 : Int64)) + (((((((y0 - (((y0.toUInt64 >>> ((1 : Int32).toInt64.toUInt64 &&& Int64.toUInt64 63)).toInt64) &&& (6148914691236517205 : Int64))) &&& (3689348814741910323 : Int64)) + ((((y0 - (((y0.toUInt64 >>> ((1 : Int32).toInt64.toUInt64 &&& Int64.toUInt64 63)).toInt64) &&& (6148914691236517205 : Int64))).toUInt64 >>> ((2 : Int32).toInt64.toUInt64 &&& Int64.toUInt64 63)).toInt64) &&& (3689348814741910323 : Int64))) + (((((y0 - (((y0.toUInt64 >>> ((1 : Int32).toInt64.toUInt64 &&& Int64.toUInt64 63)).toInt64) &&& (6148914691236517205 : Int64))) &&& (3689348814741910323 : Int64)) + ((((y0 - (((y0.toUInt64 >>> ((1 : Int32).toInt64.toUInt64 &&& Int64.toUInt64 63)).toInt64) &&& (6148914691236517205 : Int64))).toUInt64 >>> ((2 : Int32).toInt64.toUInt64 &&& Int64.toUInt64 63)).toInt64) &&& (3689348814741910323 : Int64))).toUInt64 >>> ((4 : Int32).toInt64.toUInt64 &&& Int64.toUInt64 63)).toInt64)) &&& (1085102592571150095 : Int64)).toUInt64 >>> ((8 : Int32).toInt64.toUInt64 &&& Int64.toUInt64 63)).toInt64)).toUInt64 >>> ((16 : Int32).toInt64.toUInt64 &&& Int64.toUInt64 63)).toInt64)) + (((((((((y0 - (((y0.toUInt64 >>> ((1 : Int32).toInt64.toUInt64 &&& Int64.toUInt64 63)).toInt64) &&& (6148914691236517205 : Int64))) &&& (3689348814741910323 : Int64)) + ((((y0 - (((y0.toUInt64 >>> ((1 : Int32).toInt64.toUInt64 &&& Int64.toUInt64 63)).toInt64) &&& (6148914691236517205 : Int64))).toUInt64 >>> ((2 : Int32).toInt64.toUInt64 &&& Int64.toUInt64 63)).toInt64) &&& (3689348814741910323 : Int64))) + (((((y0 - (((y0.toUInt64 >>> ((1 : Int32).toInt64.toUInt64 &&& Int64.toUInt64 63)).toInt64) &&& (6148914691236517205 : Int64))) &&& (3689348814741910323 : Int64)) + ((((y0 - (((y0.toUInt64 >>> ((1 : Int32).toInt64.toUInt64 &&& Int64.toUInt64 63)).toInt64) &&& (6148914691236517205 : Int64))).toUInt64 >>> ((2 : Int32).toInt64.toUInt64 &&& Int64.toUInt64 63)).toInt64) &&& (3689348814741910323 : Int64))).toUInt64 >>> ((4 : Int32).toInt64.toUInt64 &&& Int64.toUInt64 63)).toInt64)) &&& (1085102592571150095 : Int64)) + (((((((y0 - (((y0.toUInt64 >>> ((1 : Int32).toInt64.toUInt64 &&& Int64.toUInt64 63)).toInt64) &&& (6148914691236517205 : Int64))) &&& (3689348814741910323 : Int64)) + ((((y0 - (((y0.toUInt64 >>> ((1 : Int32).toInt64.toUInt64 &&& Int64.toUInt64 63)).toInt64) &&& (6148914691236517205 : Int64))).toUInt64 >>> ((2 : Int32).toInt64.toUInt64 &&& Int64.toUInt64 63)).toInt64) &&& (3689348814741910323 : Int64))) + (((((y0 - (((y0.toUInt64 >>> ((1 : Int32).toInt64.toUInt64 &&& Int64.toUInt64 63)).toInt64) &&& (6148914691236517205 : Int64))) &&& (3689348814741910323 : Int64)) + ((((y0 - (((y0.toUInt64 >>> ((1 : Int32).toInt64.toUInt64 &&& Int64.toUInt64 63)).toInt64) &&& (6148914691236517205 : Int64))).toUInt64 >>> ((2 : Int32).toInt64.toUInt64 &&& Int64.toUInt64 63)).toInt64) &&& (3689348814741910323 : Int64))).toUInt64 >>> ((4 : Int32).toInt64.toUInt64 &&& Int64.toUInt64 63)).toInt64)) &&& (1085102592571150095 : Int64)).toUInt64 >>> ((8 : Int32).toInt64.toUInt64 &&& Int64.toUInt64 63)).toInt64)) + ((((((((y0 - (((y0.toUInt64 >>> ((1 : Int32).toInt64.toUInt64 &&& Int64.toUInt64 63)).toInt64) &&& (6148914691236517205 : Int64))) &&& (3689348814741910323 : Int64)) + ((((y0 - (((y0.toUInt64 >>> ((1 : Int32).toInt64.toUInt64 &&& Int64.toUInt64 63)).toInt64) &&& (6148914691236517205 : Int64))).toUInt64 >>> ((2 : Int32).toInt64.toUInt64 &&& Int64.toUInt64 63)).toInt64) &&& (3689348814741910323 : Int64))) + (((((y0 - (((y0.toUInt64 >>> ((1 : Int32).toInt64.toUInt64 &&& Int64.toUInt64 63)).toInt64) &&& (6148914691236517205 : Int64))) &&& (3689348814741910323 : Int64)) + ((((y0 - (((y0.toUInt64 >>> ((1 : Int32).toInt64.toUInt64 &&& Int64.toUInt64 63)).toInt64) &&& (6148914691236517205 : Int64))).toUInt64 >>> ((2 : Int32).toInt64.toUInt64 &&& Int64.toUInt64 63)).toInt64) &&& (3689348814741910323 : Int64))).toUInt64 >>> ((4 : Int32).toInt64.toUInt64 &&& Int64.toUInt64 63)).toInt64)) &&& (1085102592571150095 : Int64)) + (((((((y0 - (((y0.toUInt64 >>> ((1 : Int32).toInt64.toUInt64 &&& Int64.toUInt64 63)).toInt64) &&& (6148914691236517205 : Int64))) &&& (3689348814741910323 : Int64)) + ((((y0 - (((y0.toUInt64 >>> ((1 : Int32).toInt64.toUInt64 &&& Int64.toUInt64 63)).toInt64) &&& (6148914691236517205 : Int64))).toUInt64 >>> ((2 : Int32).toInt64.toUInt64 &&& Int64.toUInt64 63)).toInt64) &&& (3689348814741910323 : Int64))) + (((((y0 - (((y0.toUInt64 >>> ((1 : Int32).toInt64.toUInt64 &&& Int64.toUInt64 63)).toInt64) &&& (6148914691236517205 : Int64))) &&& (3689348814741910323 : Int64)) + ((((y0 - (((y0.toUInt64 >>> ((1 : Int32).toInt64.toUInt64 &&& Int64.toUInt64 63)).toInt64) &&& (6148914691236517205 : Int64))).toUInt64 >>> ((2 : Int32).toInt64.toUInt64 &&& Int64.toUInt64 63)).toInt64) &&& (3689348814741910323 : Int64))).toUInt64 >>> ((4 : Int32).toInt64.toUInt64 &&& Int64.toUInt64 63)).toInt64)) &&& (1085102592571150095 : Int64)).toUInt64 >>> ((8 : Int32).toInt64.toUInt64 &&& Int64.toUInt64 63)).toInt64)).toUInt64 >>> ((16 : Int32).toInt64.toUInt64 &&& Int64.toUInt64 63)).toInt64)).toUInt64 >>> ((32 : Int32).toInt64.toUInt64 &&& Int64.toUInt64 63)).toInt64)).toInt32) hx hb d_Long_bitCount_56 rfl ?_
  refine lv_bipush (v := (127 : Int32)) hx hb d_Long_bitCount_57 (by decide) ?_
  refine lv_iand hx hb d_Long_bitCount_59 ?_
  obtain rfl := Option.some.inj hM
  exact hR _ ls H locs d_Long_bitCount_60 hP hS
theorem c_Long_bitCount {l : Launch} {cy : Nat → ClassId} {D : va_G} {ρ : Nat → Nat} {A : Nat → Prop} (hD : gD ρ A) {y0 : Int64} {u : gSt} {z : (Int32 × gSt)} (hM : M_Long_bitCount y0 u = some z) : gCtI l y_Long_bitCount prog_19_method_50_code 2 (some .int) 0 0 cy D ρ A [.long y0] u z.1 z.2 :=
  g_met (by decide) hD (Nat.le_of_ble_eq_true rfl) (fun p e s m below meth c ls X hl hP => t_Long_bitCount X hM (fun pc ls H locs hd hP hS => g_iret X hP hS hd) ls _ [] hl hP va_S.rf)
end
section
variable {p : Program} {l : Launch} {e : Env} {R : Room} {s : State} {m : MethodId} {args : Array Value} {below : List Frame} {meth : Method} {c : Code} {Q : State → Prop} {H0 : Heap} {cells slots : Nat} {cy : Nat → ClassId} {D : va_G} {ρ : Nat → Nat} {A : Nat → Prop}
def y_Grid_countShared : MethodName := ⟨"TermDesk$Grid", "countShared", "(ILTermDesk$Grid;I)I"⟩
theorem gi_Grid_countShared : gMi y_Grid_countShared prog_5_method_6_code 6 (some .int) 3 5 := ⟨(gWs_at 750 (by decide +kernel) (by decide +kernel)), (gWs_at 749 (by decide +kernel) (by decide +kernel)), (gWs_at 35 (by decide +kernel) (by decide +kernel)), (gWs_at 122 (by decide +kernel) (by decide +kernel)), ⟨by decide +kernel, by decide +kernel, by decide +kernel⟩, _, _, rfl⟩
theorem gm_Grid_13 : gMk "TermDesk$Grid" 13 y_Grid_countShared := Or.inl (gWs_at 747 (by decide +kernel) (by decide +kernel))
theorem gm_Board_72 : gMk "TermDesk$Board" 72 y_Grid_countShared := Or.inr ⟨"TermDesk", gNs_at 770 (by decide +kernel) (by decide +kernel)⟩
theorem d_Grid_countShared_0 : decode prog_5_method_6_code 0 = .ok (.iconst 0, 1) := by decide +kernel
theorem d_Grid_countShared_1 : decode prog_5_method_6_code 1 = .ok (.istore 4, 2) := by decide +kernel
theorem d_Grid_countShared_3 : decode prog_5_method_6_code 3 = .ok (.iconst 0, 1) := by decide +kernel
theorem d_Grid_countShared_4 : decode prog_5_method_6_code 4 = .ok (.istore 5, 2) := by decide +kernel
theorem d_Grid_countShared_6 : decode prog_5_method_6_code 6 = .ok (.iload 5, 2) := by decide +kernel
theorem d_Grid_countShared_8 : decode prog_5_method_6_code 8 = .ok (.iconst 4, 1) := by decide +kernel
theorem d_Grid_countShared_9 : decode prog_5_method_6_code 9 = .ok (.if_icmp .ge 40, 3) := by decide +kernel
theorem d_Grid_countShared_12 : decode prog_5_method_6_code 12 = .ok (.iload 4, 2) := by decide +kernel
theorem d_Grid_countShared_14 : decode prog_5_method_6_code 14 = .ok (.aload_n 0, 1) := by decide +kernel
theorem d_Grid_countShared_15 : decode prog_5_method_6_code 15 = .ok (.getfield 9, 3) := by decide +kernel
theorem d_Grid_countShared_18 : decode prog_5_method_6_code 18 = .ok (.iload_n 1, 1) := by decide +kernel
theorem d_Grid_countShared_19 : decode prog_5_method_6_code 19 = .ok (.iconst 4, 1) := by decide +kernel
theorem d_Grid_countShared_20 : decode prog_5_method_6_code 20 = .ok (.imul, 1) := by decide +kernel
theorem d_Grid_countShared_21 : decode prog_5_method_6_code 21 = .ok (.iload 5, 2) := by decide +kernel
theorem d_Grid_countShared_23 : decode prog_5_method_6_code 23 = .ok (.iadd, 1) := by decide +kernel
theorem d_Grid_countShared_24 : decode prog_5_method_6_code 24 = .ok (.laload, 1) := by decide +kernel
theorem d_Grid_countShared_25 : decode prog_5_method_6_code 25 = .ok (.aload_n 2, 1) := by decide +kernel
theorem d_Grid_countShared_26 : decode prog_5_method_6_code 26 = .ok (.getfield 9, 3) := by decide +kernel
theorem d_Grid_countShared_29 : decode prog_5_method_6_code 29 = .ok (.iload_n 3, 1) := by decide +kernel
theorem d_Grid_countShared_30 : decode prog_5_method_6_code 30 = .ok (.iconst 4, 1) := by decide +kernel
theorem d_Grid_countShared_31 : decode prog_5_method_6_code 31 = .ok (.imul, 1) := by decide +kernel
theorem d_Grid_countShared_32 : decode prog_5_method_6_code 32 = .ok (.iload 5, 2) := by decide +kernel
theorem d_Grid_countShared_34 : decode prog_5_method_6_code 34 = .ok (.iadd, 1) := by decide +kernel
theorem d_Grid_countShared_35 : decode prog_5_method_6_code 35 = .ok (.laload, 1) := by decide +kernel
theorem d_Grid_countShared_36 : decode prog_5_method_6_code 36 = .ok (.land, 1) := by decide +kernel
theorem d_Grid_countShared_37 : decode prog_5_method_6_code 37 = .ok (.invokestatic 17, 3) := by decide +kernel
theorem d_Grid_countShared_40 : decode prog_5_method_6_code 40 = .ok (.iadd, 1) := by decide +kernel
theorem d_Grid_countShared_41 : decode prog_5_method_6_code 41 = .ok (.istore 4, 2) := by decide +kernel
theorem d_Grid_countShared_43 : decode prog_5_method_6_code 43 = .ok (.iinc 5 1, 3) := by decide +kernel
theorem d_Grid_countShared_46 : decode prog_5_method_6_code 46 = .ok (.goto (-40), 3) := by decide +kernel
theorem d_Grid_countShared_49 : decode prog_5_method_6_code 49 = .ok (.iload 4, 2) := by decide +kernel
theorem d_Grid_countShared_51 : decode prog_5_method_6_code 51 = .ok (.ireturn, 1) := by decide +kernel
noncomputable def M_Grid_countShared_b6 (a0 : Nat) (x1 : Int32) (a2 : Nat) (x3 : Int32) (x4 : Int32) (x5 : Int32) (u : gSt) : Option ((Nat × Int32 × Nat × Int32 × Int32 × Int32 × gSt) ⊕ ((Int32 × gSt))) :=
  if (4 : Int32) ≤ x5 then
    (some (.inr (x4, u)))
  else
    (gc (gK a0 == 5) <| (gFR a0 0).bind fun r15 => gc (gK r15 == 24) <| gc (gIn ((x1 * (4 : Int32)) + x5) (gLen r15)) <| gc (gK a2 == 5) <| (gFR a2 0).bind fun r26 => gc (gK r26 == 24) <| gc (gIn ((x3 * (4 : Int32)) + x5) (gLen r26)) <| (M_Long_bitCount ((u.2.2.2 r15 (gIx ((x1 * (4 : Int32)) + x5))) &&& (u.2.2.2 r26 (gIx ((x3 * (4 : Int32)) + x5)))) u).bind fun q37 =>
    some (.inl (a0, x1, a2, x3, x4 + q37.1, x5 + (1 : Int32), q37.2)))
set_option maxHeartbeats 4000000 in
set_option maxRecDepth 100000 in
theorem t_Grid_countShared_b6 (C : gX "TermDesk$Grid" prog_5_method_6_code 6 (some .int) 1 21 R cells slots cy D ρ A p s m args meth c) {a0 : Nat} {x1 : Int32} {a2 : Nat} {x3 : Int32} {x4 : Int32} {x5 : Int32} {u : gSt} {z : (Nat × Int32 × Nat × Int32 × Int32 × Int32 × gSt) ⊕ ((Int32 × gSt))} (hM : M_Grid_countShared_b6 a0 x1 a2 x3 x4 x5 u = some z) (hN : ∀ a0' x1' a2' x3' x4' x5' u', z = .inl (a0', x1', a2', x3', x4', x5', u') → gAt p l e R s m args below meth c Q H0 cells slots cy D ρ A 6 6 [(0, .ref (ρ (a0'))), (1, .int (x1')), (2, .ref (ρ (a2'))), (3, .int (x3')), (4, .int (x4')), (5, .int (x5'))] [] (u')) (hE0 : ∀ x4' u', z = .inr (x4', u') → gAt p l e R s m args below meth c Q H0 cells slots cy D ρ A 6 49 [(4, .int (x4'))] [] (u')) : gAt p l e R s m args below meth c Q H0 cells slots cy D ρ A 6 6 [(0, .ref (ρ a0)), (1, .int x1), (2, .ref (ρ a2)), (3, .int x3), (4, .int x4), (5, .int x5)] [] u := by
  intro ls H locs hl hP hS
  have hx := C.1
  have hb := C.2.1
  unfold M_Grid_countShared_b6 at hM
  refine lv_iload hx hb d_Grid_countShared_6 (lv_at hl 5 rfl) ?_
  refine lv_iconst (v := (4 : Int32)) hx hb d_Grid_countShared_8 (by decide) ?_
  refine lv_icmp_ge (tgt := 49) hx hb d_Grid_countShared_9 (by decide) (fun hc9 => ?_) (fun hc9 => ?_)
  · replace hM := gi_t hc9 hM
    exact hE0 _ _ (Option.some.inj hM).symm ls H locs (lv_sub hl [4] rfl) hP hS
  · replace hM := gi_f hc9 hM
    refine lv_iload hx hb d_Grid_countShared_12 (lv_at hl 4 rfl) ?_
    refine lv_aload_n hx hb d_Grid_countShared_14 rfl (lv_at hl 0 rfl) ?_
    obtain ⟨h15, hM⟩ := gc_some hM
    obtain ⟨r15, hr15, hM⟩ := gb_some hM
    refine g_getR C hP gl_Grid_9 (eq_of_beq h15) rfl hr15 d_Grid_countShared_15 ?_
    refine lv_iload_n hx hb d_Grid_countShared_18 rfl (lv_at hl 1 rfl) ?_
    refine lv_iconst (v := (4 : Int32)) hx hb d_Grid_countShared_19 (by decide) ?_
    refine lv_imul hx hb d_Grid_countShared_20 ?_
    refine lv_iload hx hb d_Grid_countShared_21 (lv_at hl 5 rfl) ?_
    refine lv_iadd hx hb d_Grid_countShared_23 ?_
    obtain ⟨h24, hM⟩ := gc_some hM
    obtain ⟨hi24, hM⟩ := gc_some hM
    refine g_lald C hP (eq_of_beq h24) hi24 d_Grid_countShared_24 ?_
    refine lv_aload_n hx hb d_Grid_countShared_25 rfl (lv_at hl 2 rfl) ?_
    obtain ⟨h26, hM⟩ := gc_some hM
    obtain ⟨r26, hr26, hM⟩ := gb_some hM
    refine g_getR C hP gl_Grid_9 (eq_of_beq h26) rfl hr26 d_Grid_countShared_26 ?_
    refine lv_iload_n hx hb d_Grid_countShared_29 rfl (lv_at hl 3 rfl) ?_
    refine lv_iconst (v := (4 : Int32)) hx hb d_Grid_countShared_30 (by decide) ?_
    refine lv_imul hx hb d_Grid_countShared_31 ?_
    refine lv_iload hx hb d_Grid_countShared_32 (lv_at hl 5 rfl) ?_
    refine lv_iadd hx hb d_Grid_countShared_34 ?_
    obtain ⟨h35, hM⟩ := gc_some hM
    obtain ⟨hi35, hM⟩ := gc_some hM
    refine g_lald C hP (eq_of_beq h35) hi35 d_Grid_countShared_35 ?_
    refine lv_land hx hb d_Grid_countShared_36 ?_
    obtain ⟨q37, hq37, hM⟩ := gb_some hM
    refine g_backI (g_runS (As := [.long ((u.2.2.2 r15 (gIx ((x1 * (4 : Int32)) + x5))) &&& (u.2.2.2 r26 (gIx ((x3 * (4 : Int32)) + x5))))]) C hP (c_Long_bitCount C.2.2.2.2.2.2.2.2.1 hq37) gi_Long_bitCount gm_Grid_17 rfl (by decide) (by decide) hl.1 rfl (Nat.le_of_ble_eq_true rfl) d_Grid_countShared_37) hS (fun H locs hP hS => ?_)
    refine lv_iadd hx hb d_Grid_countShared_40 ?_
    refine lv_istore (lv' := [(4, .int (x4 + q37.1)), (0, .ref (ρ a0)), (1, .int x1), (2, .ref (ρ a2)), (3, .int x3), (5, .int x5)]) hx hb d_Grid_countShared_41 hl (by decide) rfl (fun ls hl => ?_)
    refine lv_iinc (k := 5) (v := x5 + (1 : Int32)) (lv' := [(5, .int (x5 + (1 : Int32))), (4, .int (x4 + q37.1)), (0, .ref (ρ a0)), (1, .int x1), (2, .ref (ρ a2)), (3, .int x3)]) hx hb d_Grid_countShared_43 hl rfl (congrArg (fun z => x5 + z) (by decide)) (by decide) rfl (fun ls hl => ?_)
    refine lv_goto (tgt := 6) hx hb d_Grid_countShared_46 (by decide) ?_
    exact hN _ _ _ _ _ _ _ (Option.some.inj hM).symm ls H locs (lv_sub hl [2, 3, 4, 5, 1, 0] rfl) hP hS
noncomputable def M_Grid_countShared_L6 : (Nat × Int32 × Nat × Int32 × Int32 × Int32 × gSt) → Option ((Nat × Int32 × Nat × Int32 × Int32 × Int32 × gSt) ⊕ ((Int32 × gSt))) := fun x => M_Grid_countShared_b6 x.1 x.2.1 x.2.2.1 x.2.2.2.1 x.2.2.2.2.1 x.2.2.2.2.2.1 x.2.2.2.2.2.2
theorem t_Grid_countShared_L6 (C : gX "TermDesk$Grid" prog_5_method_6_code 6 (some .int) 1 21 R cells slots cy D ρ A p s m args meth c) {a0 : Nat} {x1 : Int32} {a2 : Nat} {x3 : Int32} {x4 : Int32} {x5 : Int32} {u : gSt} {yy : (Int32 × gSt)} (hL : gLp M_Grid_countShared_L6 (a0, x1, a2, x3, x4, x5, u) = some yy) (hE0 : (∀ y', yy = y' → gAt p l e R s m args below meth c Q H0 cells slots cy D ρ A 6 49 [(4, .int (y'.1))] [] (y'.2))) : gAt p l e R s m args below meth c Q H0 cells slots cy D ρ A 6 6 [(0, .ref (ρ a0)), (1, .int x1), (2, .ref (ρ a2)), (3, .int x3), (4, .int x4), (5, .int x5)] [] u :=
  g_loop (f := M_Grid_countShared_L6) (P := fun x => gAt p l e R s m args below meth c Q H0 cells slots cy D ρ A 6 6 [(0, .ref (ρ x.1)), (1, .int x.2.1), (2, .ref (ρ x.2.2.1)), (3, .int x.2.2.2.1), (4, .int x.2.2.2.2.1), (5, .int x.2.2.2.2.2.1)] [] x.2.2.2.2.2.2) (E := fun yy => (∀ y', yy = y' → gAt p l e R s m args below meth c Q H0 cells slots cy D ρ A 6 49 [(4, .int (y'.1))] [] (y'.2))) (fun x z hf hN hE => t_Grid_countShared_b6 C hf (fun a0' x1' a2' x3' x4' x5' u' h => hN (a0', x1', a2', x3', x4', x5', u') h) (fun x4' u' h => (hE _ h) (x4', u') rfl)) hL hE0
noncomputable def M_Grid_countShared (a0 : Nat) (x1 : Int32) (a2 : Nat) (x3 : Int32) (u : gSt) : Option ((Int32 × gSt)) :=
  (gLp M_Grid_countShared_L6 (a0, x1, a2, x3, (0 : Int32), (0 : Int32), u)).bind fun y6 =>
  some (y6.1, y6.2)
set_option maxHeartbeats 4000000 in
set_option maxRecDepth 100000 in
theorem t_Grid_countShared (C : gX "TermDesk$Grid" prog_5_method_6_code 6 (some .int) 1 21 R cells slots cy D ρ A p s m args meth c) {a0 : Nat} {x1 : Int32} {a2 : Nat} {x3 : Int32} {u : gSt} {z : (Int32 × gSt)} (hM : M_Grid_countShared a0 x1 a2 x3 u = some z) (hR : gRtI p l e R s m args below meth c Q H0 cells slots cy D ρ A prog_5_method_6_code z.1 z.2) : gAt p l e R s m args below meth c Q H0 cells slots cy D ρ A 6 0 [(0, .ref (ρ a0)), (1, .int x1), (2, .ref (ρ a2)), (3, .int x3)] [] u := by
  intro ls H locs hl hP hS
  have hx := C.1
  have hb := C.2.1
  unfold M_Grid_countShared at hM
  refine lv_iconst (v := (0 : Int32)) hx hb d_Grid_countShared_0 (by decide) ?_
  refine lv_istore (lv' := [(4, .int (0 : Int32)), (0, .ref (ρ a0)), (1, .int x1), (2, .ref (ρ a2)), (3, .int x3)]) hx hb d_Grid_countShared_1 hl (by decide) rfl (fun ls hl => ?_)
  refine lv_iconst (v := (0 : Int32)) hx hb d_Grid_countShared_3 (by decide) ?_
  refine lv_istore (lv' := [(5, .int (0 : Int32)), (4, .int (0 : Int32)), (0, .ref (ρ a0)), (1, .int x1), (2, .ref (ρ a2)), (3, .int x3)]) hx hb d_Grid_countShared_4 hl (by decide) rfl (fun ls hl => ?_)
  obtain ⟨y6, hL6, hM⟩ := gb_some hM
  refine t_Grid_countShared_L6 C hL6 (fun y6_0 hy => ?_) ls H locs (lv_sub hl [2, 3, 4, 5, 1, 0] rfl) hP hS
  · subst hy
    intro ls H locs hl hP hS
    refine lv_iload hx hb d_Grid_countShared_49 (lv_at hl 0 rfl) ?_
    obtain rfl := Option.some.inj hM
    exact hR _ ls H locs d_Grid_countShared_51 hP hS
theorem c_Grid_countShared {l : Launch} {cy : Nat → ClassId} {D : va_G} {ρ : Nat → Nat} {A : Nat → Prop} (hD : gD ρ A) {a0 : Nat} {x1 : Int32} {a2 : Nat} {x3 : Int32} {u : gSt} {z : (Int32 × gSt)} (hM : M_Grid_countShared a0 x1 a2 x3 u = some z) : gCtI l y_Grid_countShared prog_5_method_6_code 6 (some .int) 1 21 cy D ρ A [.ref (ρ a0), .int x1, .ref (ρ a2), .int x3] u z.1 z.2 :=
  g_met (by decide) hD (Nat.le_of_ble_eq_true rfl) (fun p e s m below meth c ls X hl hP => t_Grid_countShared X hM (fun pc ls H locs hd hP hS => g_iret X hP hS hd) ls _ [] hl hP va_S.rf)
end
section
variable {p : Program} {l : Launch} {e : Env} {R : Room} {s : State} {m : MethodId} {args : Array Value} {below : List Frame} {meth : Method} {c : Code} {Q : State → Prop} {H0 : Heap} {cells slots : Nat} {cy : Nat → ClassId} {D : va_G} {ρ : Nat → Nat} {A : Nat → Prop}
def y_Grid_count : MethodName := ⟨"TermDesk$Grid", "count", "(I)I"⟩
theorem gi_Grid_count : gMi y_Grid_count prog_5_method_5_code 2 (some .int) 1 5 := ⟨(gWs_at 746 (by decide +kernel) (by decide +kernel)), (gWs_at 745 (by decide +kernel) (by decide +kernel)), (gWs_at 34 (by decide +kernel) (by decide +kernel)), (gWs_at 122 (by decide +kernel) (by decide +kernel)), ⟨by decide +kernel, by decide +kernel, by decide +kernel⟩, _, _, rfl⟩
theorem gm_Board_69 : gMk "TermDesk$Board" 69 y_Grid_count := Or.inr ⟨"TermDesk", gNs_at 743 (by decide +kernel) (by decide +kernel)⟩
theorem gm_Desk_132 : gMk "TermDesk" 132 y_Grid_count := Or.inr ⟨"TermDesk", gNs_at 797 (by decide +kernel) (by decide +kernel)⟩
theorem d_Grid_count_0 : decode prog_5_method_5_code 0 = .ok (.aload_n 0, 1) := by decide +kernel
theorem d_Grid_count_1 : decode prog_5_method_5_code 1 = .ok (.iload_n 1, 1) := by decide +kernel
theorem d_Grid_count_2 : decode prog_5_method_5_code 2 = .ok (.aload_n 0, 1) := by decide +kernel
theorem d_Grid_count_3 : decode prog_5_method_5_code 3 = .ok (.iload_n 1, 1) := by decide +kernel
theorem d_Grid_count_4 : decode prog_5_method_5_code 4 = .ok (.invokevirtual 13, 3) := by decide +kernel
theorem d_Grid_count_7 : decode prog_5_method_5_code 7 = .ok (.ireturn, 1) := by decide +kernel
noncomputable def M_Grid_count (a0 : Nat) (x1 : Int32) (u : gSt) : Option ((Int32 × gSt)) :=
  gc (gK a0 == 5) <| (M_Grid_countShared a0 x1 a0 x1 u).bind fun q4 =>
  some (q4.1, q4.2)
set_option maxHeartbeats 4000000 in
set_option maxRecDepth 100000 in
theorem t_Grid_count (C : gX "TermDesk$Grid" prog_5_method_5_code 2 (some .int) 2 46 R cells slots cy D ρ A p s m args meth c) {a0 : Nat} {x1 : Int32} {u : gSt} {z : (Int32 × gSt)} (hM : M_Grid_count a0 x1 u = some z) (hR : gRtI p l e R s m args below meth c Q H0 cells slots cy D ρ A prog_5_method_5_code z.1 z.2) : gAt p l e R s m args below meth c Q H0 cells slots cy D ρ A 2 0 [(0, .ref (ρ a0)), (1, .int x1)] [] u := by
  intro ls H locs hl hP hS
  have hx := C.1
  have hb := C.2.1
  unfold M_Grid_count at hM
  refine lv_aload_n hx hb d_Grid_count_0 rfl (lv_at hl 0 rfl) ?_
  refine lv_iload_n hx hb d_Grid_count_1 rfl (lv_at hl 1 rfl) ?_
  refine lv_aload_n hx hb d_Grid_count_2 rfl (lv_at hl 0 rfl) ?_
  refine lv_iload_n hx hb d_Grid_count_3 rfl (lv_at hl 1 rfl) ?_
  obtain ⟨h4, hM⟩ := gc_some hM
  obtain ⟨q4, hq4, hM⟩ := gb_some hM
  refine g_backI (g_runV (As := [.int x1, .ref (ρ a0), .int x1]) C hP (c_Grid_countShared C.2.2.2.2.2.2.2.2.1 hq4) gi_Grid_countShared gm_Grid_13 (eq_of_beq h4) rfl (by decide) (by decide) hl.1 rfl (Nat.le_of_ble_eq_true rfl) d_Grid_count_4) hS (fun H locs hP hS => ?_)
  obtain rfl := Option.some.inj hM
  exact hR _ ls H locs d_Grid_count_7 hP hS
theorem c_Grid_count {l : Launch} {cy : Nat → ClassId} {D : va_G} {ρ : Nat → Nat} {A : Nat → Prop} (hD : gD ρ A) {a0 : Nat} {x1 : Int32} {u : gSt} {z : (Int32 × gSt)} (hM : M_Grid_count a0 x1 u = some z) : gCtI l y_Grid_count prog_5_method_5_code 2 (some .int) 2 46 cy D ρ A [.ref (ρ a0), .int x1] u z.1 z.2 :=
  g_met (by decide) hD (Nat.le_of_ble_eq_true rfl) (fun p e s m below meth c ls X hl hP => t_Grid_count X hM (fun pc ls H locs hd hP hS => g_iret X hP hS hd) ls _ [] hl hP va_S.rf)
end
section
variable {p : Program} {l : Launch} {e : Env} {R : Room} {s : State} {m : MethodId} {args : Array Value} {below : List Frame} {meth : Method} {c : Code} {Q : State → Prop} {H0 : Heap} {cells slots : Nat} {cy : Nat → ClassId} {D : va_G} {ρ : Nat → Nat} {A : Nat → Prop}
def y_Grid_has : MethodName := ⟨"TermDesk$Grid", "has", "(II)Z"⟩
theorem gi_Grid_has : gMi y_Grid_has prog_5_method_2_code 3 (some .boolean) 2 5 := ⟨(gWs_at 532 (by decide +kernel) (by decide +kernel)), (gWs_at 531 (by decide +kernel) (by decide +kernel)), (gWs_at 14 (by decide +kernel) (by decide +kernel)), (gWs_at 122 (by decide +kernel) (by decide +kernel)), ⟨by decide +kernel, by decide +kernel, by decide +kernel⟩, _, _, rfl⟩
theorem gm_Board_65 : gMk "TermDesk$Board" 65 y_Grid_has := Or.inr ⟨"TermDesk", gNs_at 529 (by decide +kernel) (by decide +kernel)⟩
theorem gm_Desk_169 : gMk "TermDesk" 169 y_Grid_has := Or.inr ⟨"TermDesk", gNs_at 844 (by decide +kernel) (by decide +kernel)⟩
theorem d_Grid_has_0 : decode prog_5_method_2_code 0 = .ok (.aload_n 0, 1) := by decide +kernel
theorem d_Grid_has_1 : decode prog_5_method_2_code 1 = .ok (.getfield 9, 3) := by decide +kernel
theorem d_Grid_has_4 : decode prog_5_method_2_code 4 = .ok (.iload_n 1, 1) := by decide +kernel
theorem d_Grid_has_5 : decode prog_5_method_2_code 5 = .ok (.iconst 4, 1) := by decide +kernel
theorem d_Grid_has_6 : decode prog_5_method_2_code 6 = .ok (.imul, 1) := by decide +kernel
theorem d_Grid_has_7 : decode prog_5_method_2_code 7 = .ok (.iload_n 2, 1) := by decide +kernel
theorem d_Grid_has_8 : decode prog_5_method_2_code 8 = .ok (.bipush 6, 2) := by decide +kernel
theorem d_Grid_has_10 : decode prog_5_method_2_code 10 = .ok (.ishr, 1) := by decide +kernel
theorem d_Grid_has_11 : decode prog_5_method_2_code 11 = .ok (.iadd, 1) := by decide +kernel
theorem d_Grid_has_12 : decode prog_5_method_2_code 12 = .ok (.laload, 1) := by decide +kernel
theorem d_Grid_has_13 : decode prog_5_method_2_code 13 = .ok (.iload_n 2, 1) := by decide +kernel
theorem d_Grid_has_14 : decode prog_5_method_2_code 14 = .ok (.bipush 63, 2) := by decide +kernel
theorem d_Grid_has_16 : decode prog_5_method_2_code 16 = .ok (.iand, 1) := by decide +kernel
theorem d_Grid_has_17 : decode prog_5_method_2_code 17 = .ok (.lshr, 1) := by decide +kernel
theorem d_Grid_has_18 : decode prog_5_method_2_code 18 = .ok (.lconst 1, 1) := by decide +kernel
theorem d_Grid_has_19 : decode prog_5_method_2_code 19 = .ok (.land, 1) := by decide +kernel
theorem d_Grid_has_20 : decode prog_5_method_2_code 20 = .ok (.lconst 0, 1) := by decide +kernel
theorem d_Grid_has_21 : decode prog_5_method_2_code 21 = .ok (.lcmp, 1) := by decide +kernel
theorem d_Grid_has_22 : decode prog_5_method_2_code 22 = .ok (.ifCond .eq 7, 3) := by decide +kernel
theorem d_Grid_has_25 : decode prog_5_method_2_code 25 = .ok (.iconst 1, 1) := by decide +kernel
theorem d_Grid_has_26 : decode prog_5_method_2_code 26 = .ok (.goto 4, 3) := by decide +kernel
theorem d_Grid_has_29 : decode prog_5_method_2_code 29 = .ok (.iconst 0, 1) := by decide +kernel
theorem d_Grid_has_30 : decode prog_5_method_2_code 30 = .ok (.ireturn, 1) := by decide +kernel
noncomputable def M_Grid_has_b30 (s0 : Int32) (u : gSt) : Option ((Int32 × gSt)) :=
  gc (gZ s0) <| some (s0, u)
set_option maxHeartbeats 4000000 in
set_option maxRecDepth 100000 in
theorem t_Grid_has_b30 (C : gX "TermDesk$Grid" prog_5_method_2_code 3 (some .boolean) 0 0 R cells slots cy D ρ A p s m args meth c) {s0 : Int32} {u : gSt} {z : (Int32 × gSt)} (hM : M_Grid_has_b30 s0 u = some z) (hR : gRtZ p l e R s m args below meth c Q H0 cells slots cy D ρ A prog_5_method_2_code z.1 z.2) : gAt p l e R s m args below meth c Q H0 cells slots cy D ρ A 3 30 [] [.int s0] u := by
  intro ls H locs hl hP hS
  have hx := C.1
  have hb := C.2.1
  unfold M_Grid_has_b30 at hM
  obtain ⟨hz30, hM⟩ := gc_some hM
  obtain rfl := Option.some.inj hM
  exact hR _ ls H locs hz30 d_Grid_has_30 hP hS
noncomputable def M_Grid_has (a0 : Nat) (x1 : Int32) (x2 : Int32) (u : gSt) : Option ((Int32 × gSt)) :=
  gc (gK a0 == 5) <| (gFR a0 0).bind fun r1 => gc (gK r1 == 24) <| gc (gIn ((x1 * (4 : Int32)) + (x2 >>> ((6 : Int32) &&& (31 : Int32)))) (gLen r1)) <| if (lg_cmp (((u.2.2.2 r1 (gIx ((x1 * (4 : Int32)) + (x2 >>> ((6 : Int32) &&& (31 : Int32)))))) >>> ((x2 &&& (63 : Int32)).toInt64 &&& (63 : Int64))) &&& (1 : Int64)) (0 : Int64)) = (0 : Int32) then
    (M_Grid_has_b30 (0 : Int32) u)
  else
    (M_Grid_has_b30 (1 : Int32) u)
set_option maxHeartbeats 4000000 in
set_option maxRecDepth 100000 in
theorem t_Grid_has (C : gX "TermDesk$Grid" prog_5_method_2_code 3 (some .boolean) 0 0 R cells slots cy D ρ A p s m args meth c) {a0 : Nat} {x1 : Int32} {x2 : Int32} {u : gSt} {z : (Int32 × gSt)} (hM : M_Grid_has a0 x1 x2 u = some z) (hR : gRtZ p l e R s m args below meth c Q H0 cells slots cy D ρ A prog_5_method_2_code z.1 z.2) : gAt p l e R s m args below meth c Q H0 cells slots cy D ρ A 3 0 [(0, .ref (ρ a0)), (1, .int x1), (2, .int x2)] [] u := by
  intro ls H locs hl hP hS
  have hx := C.1
  have hb := C.2.1
  unfold M_Grid_has at hM
  refine lv_aload_n hx hb d_Grid_has_0 rfl (lv_at hl 0 rfl) ?_
  obtain ⟨h1, hM⟩ := gc_some hM
  obtain ⟨r1, hr1, hM⟩ := gb_some hM
  refine g_getR C hP gl_Grid_9 (eq_of_beq h1) rfl hr1 d_Grid_has_1 ?_
  refine lv_iload_n hx hb d_Grid_has_4 rfl (lv_at hl 1 rfl) ?_
  refine lv_iconst (v := (4 : Int32)) hx hb d_Grid_has_5 (by decide) ?_
  refine lv_imul hx hb d_Grid_has_6 ?_
  refine lv_iload_n hx hb d_Grid_has_7 rfl (lv_at hl 2 rfl) ?_
  refine lv_bipush (v := (6 : Int32)) hx hb d_Grid_has_8 (by decide) ?_
  refine lv_ishr hx hb d_Grid_has_10 ?_
  refine lv_iadd hx hb d_Grid_has_11 ?_
  obtain ⟨h12, hM⟩ := gc_some hM
  obtain ⟨hi12, hM⟩ := gc_some hM
  refine g_lald C hP (eq_of_beq h12) hi12 d_Grid_has_12 ?_
  refine lv_iload_n hx hb d_Grid_has_13 rfl (lv_at hl 2 rfl) ?_
  refine lv_bipush (v := (63 : Int32)) hx hb d_Grid_has_14 (by decide) ?_
  refine lv_iand hx hb d_Grid_has_16 ?_
  refine lv_lshr (v := (u.2.2.2 r1 (gIx ((x1 * (4 : Int32)) + (x2 >>> ((6 : Int32) &&& (31 : Int32)))))) >>> ((x2 &&& (63 : Int32)).toInt64 &&& (63 : Int64))) hx hb d_Grid_has_17 rfl ?_
  refine lv_lconst (v := 1) hx hb d_Grid_has_18 (by decide) ?_
  refine lv_land hx hb d_Grid_has_19 ?_
  refine lv_lconst (v := 0) hx hb d_Grid_has_20 (by decide) ?_
  refine W.lcmp hx hb d_Grid_has_21 ?_
  refine lv_if_eq (tgt := 29) hx hb d_Grid_has_22 (by decide) (fun hc22 => ?_) (fun hc22 => ?_)
  · replace hM := gi_t hc22 hM
    refine lv_iconst (v := (0 : Int32)) hx hb d_Grid_has_29 (by decide) ?_
    exact t_Grid_has_b30 C hM hR ls H locs (lv_sub hl [] rfl) hP hS
  · replace hM := gi_f hc22 hM
    refine lv_iconst (v := (1 : Int32)) hx hb d_Grid_has_25 (by decide) ?_
    refine lv_goto (tgt := 30) hx hb d_Grid_has_26 (by decide) ?_
    exact t_Grid_has_b30 C hM hR ls H locs (lv_sub hl [] rfl) hP hS
theorem c_Grid_has {l : Launch} {cy : Nat → ClassId} {D : va_G} {ρ : Nat → Nat} {A : Nat → Prop} (hD : gD ρ A) {a0 : Nat} {x1 : Int32} {x2 : Int32} {u : gSt} {z : (Int32 × gSt)} (hM : M_Grid_has a0 x1 x2 u = some z) : gCtI l y_Grid_has prog_5_method_2_code 3 (some .boolean) 0 0 cy D ρ A [.ref (ρ a0), .int x1, .int x2] u z.1 z.2 :=
  g_met (by decide) hD (Nat.le_of_ble_eq_true rfl) (fun p e s m below meth c ls X hl hP => t_Grid_has X hM (fun pc ls H locs hz hd hP hS => g_zret X hP hS hz hd) ls _ [] hl hP va_S.rf)
end
section
variable {p : Program} {l : Launch} {e : Env} {R : Room} {s : State} {m : MethodId} {args : Array Value} {below : List Frame} {meth : Method} {c : Code} {Q : State → Prop} {H0 : Heap} {cells slots : Nat} {cy : Nat → ClassId} {D : va_G} {ρ : Nat → Nat} {A : Nat → Prop}
def y_Arrays_fillJ : MethodName := ⟨"java/util/Arrays", "fill", "([JJ)V"⟩
theorem gi_Arrays_fillJ : gMs y_Arrays_fillJ prog_27_method_101_code 5 none 2 := ⟨(gWs_at 615 (by decide +kernel) (by decide +kernel)), (gWs_at 614 (by decide +kernel) (by decide +kernel)), (gWs_at 138 (by decide +kernel) (by decide +kernel)), ⟨by decide +kernel, by decide +kernel, by decide +kernel⟩⟩
theorem gm_Grid_23 : gMk "TermDesk$Grid" 23 y_Arrays_fillJ := Or.inl (gWs_at 613 (by decide +kernel) (by decide +kernel))
theorem d_Arrays_fillJ_0 : decode prog_27_method_101_code 0 = .ok (.iconst 0, 1) := by decide +kernel
theorem d_Arrays_fillJ_1 : decode prog_27_method_101_code 1 = .ok (.istore_n 3, 1) := by decide +kernel
theorem d_Arrays_fillJ_2 : decode prog_27_method_101_code 2 = .ok (.aload_n 0, 1) := by decide +kernel
theorem d_Arrays_fillJ_3 : decode prog_27_method_101_code 3 = .ok (.arraylength, 1) := by decide +kernel
theorem d_Arrays_fillJ_4 : decode prog_27_method_101_code 4 = .ok (.istore 4, 2) := by decide +kernel
theorem d_Arrays_fillJ_6 : decode prog_27_method_101_code 6 = .ok (.iload_n 3, 1) := by decide +kernel
theorem d_Arrays_fillJ_7 : decode prog_27_method_101_code 7 = .ok (.iload 4, 2) := by decide +kernel
theorem d_Arrays_fillJ_9 : decode prog_27_method_101_code 9 = .ok (.if_icmp .ge 13, 3) := by decide +kernel
theorem d_Arrays_fillJ_12 : decode prog_27_method_101_code 12 = .ok (.aload_n 0, 1) := by decide +kernel
theorem d_Arrays_fillJ_13 : decode prog_27_method_101_code 13 = .ok (.iload_n 3, 1) := by decide +kernel
theorem d_Arrays_fillJ_14 : decode prog_27_method_101_code 14 = .ok (.lload_n 1, 1) := by decide +kernel
theorem d_Arrays_fillJ_15 : decode prog_27_method_101_code 15 = .ok (.lastore, 1) := by decide +kernel
theorem d_Arrays_fillJ_16 : decode prog_27_method_101_code 16 = .ok (.iinc 3 1, 3) := by decide +kernel
theorem d_Arrays_fillJ_19 : decode prog_27_method_101_code 19 = .ok (.goto (-13), 3) := by decide +kernel
theorem d_Arrays_fillJ_22 : decode prog_27_method_101_code 22 = .ok (.return_, 1) := by decide +kernel
noncomputable def M_Arrays_fillJ_b6 (a0 : Nat) (y1 : Int64) (x3 : Int32) (x4 : Int32) (u : gSt) : Option ((Nat × Int64 × Int32 × Int32 × gSt) ⊕ ((gSt))) :=
  if x4 ≤ x3 then
    (some (.inr u))
  else
    (gc (gK a0 == 24) <| gc (gIn x3 (gLen a0)) <| (some (gsL u a0 (gIx x3) y1)).bind fun u15 =>
    some (.inl (a0, y1, x3 + (1 : Int32), x4, u15)))
set_option maxHeartbeats 4000000 in
set_option maxRecDepth 100000 in
theorem t_Arrays_fillJ_b6 (C : gX "java/util/Arrays" prog_27_method_101_code 5 none 0 0 R cells slots cy D ρ A p s m args meth c) {a0 : Nat} {y1 : Int64} {x3 : Int32} {x4 : Int32} {u : gSt} {z : (Nat × Int64 × Int32 × Int32 × gSt) ⊕ ((gSt))} (hM : M_Arrays_fillJ_b6 a0 y1 x3 x4 u = some z) (hN : ∀ a0' y1' x3' x4' u', z = .inl (a0', y1', x3', x4', u') → gAt p l e R s m args below meth c Q H0 cells slots cy D ρ A 5 6 [(0, .ref (ρ (a0'))), (1, .long (y1')), (3, .int (x3')), (4, .int (x4'))] [] (u')) (hE0 : ∀ u', z = .inr u' → gAt p l e R s m args below meth c Q H0 cells slots cy D ρ A 5 22 [] [] (u')) : gAt p l e R s m args below meth c Q H0 cells slots cy D ρ A 5 6 [(0, .ref (ρ a0)), (1, .long y1), (3, .int x3), (4, .int x4)] [] u := by
  intro ls H locs hl hP hS
  have hx := C.1
  have hb := C.2.1
  unfold M_Arrays_fillJ_b6 at hM
  refine lv_iload_n hx hb d_Arrays_fillJ_6 rfl (lv_at hl 2 rfl) ?_
  refine lv_iload hx hb d_Arrays_fillJ_7 (lv_at hl 3 rfl) ?_
  refine lv_icmp_ge (tgt := 22) hx hb d_Arrays_fillJ_9 (by decide) (fun hc9 => ?_) (fun hc9 => ?_)
  · replace hM := gi_t hc9 hM
    exact hE0 _ (Option.some.inj hM).symm ls H locs (lv_sub hl [] rfl) hP hS
  · replace hM := gi_f hc9 hM
    refine lv_aload_n hx hb d_Arrays_fillJ_12 rfl (lv_at hl 0 rfl) ?_
    refine lv_iload_n hx hb d_Arrays_fillJ_13 rfl (lv_at hl 2 rfl) ?_
    refine lv_lload_n hx hb d_Arrays_fillJ_14 rfl (lv_at hl 1 rfl) ?_
    obtain ⟨h15, hM⟩ := gc_some hM
    obtain ⟨hi15, hM⟩ := gc_some hM
    obtain ⟨u15, e15, hM⟩ := gb_some hM
    refine g_last C hP hS (eq_of_beq h15) hi15 d_Arrays_fillJ_15 (fun H locs hP hS => ?_)
    rw [Option.some.inj e15] at hP
    refine lv_iinc (k := 2) (v := x3 + (1 : Int32)) (lv' := [(3, .int (x3 + (1 : Int32))), (0, .ref (ρ a0)), (1, .long y1), (4, .int x4)]) hx hb d_Arrays_fillJ_16 hl rfl (congrArg (fun z => x3 + z) (by decide)) (by decide) rfl (fun ls hl => ?_)
    refine lv_goto (tgt := 6) hx hb d_Arrays_fillJ_19 (by decide) ?_
    exact hN _ _ _ _ _ (Option.some.inj hM).symm ls H locs (lv_sub hl [1, 2, 0, 3] rfl) hP hS
noncomputable def M_Arrays_fillJ_L6 : (Nat × Int64 × Int32 × Int32 × gSt) → Option ((Nat × Int64 × Int32 × Int32 × gSt) ⊕ ((gSt))) := fun x => M_Arrays_fillJ_b6 x.1 x.2.1 x.2.2.1 x.2.2.2.1 x.2.2.2.2
theorem t_Arrays_fillJ_L6 (C : gX "java/util/Arrays" prog_27_method_101_code 5 none 0 0 R cells slots cy D ρ A p s m args meth c) {a0 : Nat} {y1 : Int64} {x3 : Int32} {x4 : Int32} {u : gSt} {yy : (gSt)} (hL : gLp M_Arrays_fillJ_L6 (a0, y1, x3, x4, u) = some yy) (hE0 : (∀ y', yy = y' → gAt p l e R s m args below meth c Q H0 cells slots cy D ρ A 5 22 [] [] (y'))) : gAt p l e R s m args below meth c Q H0 cells slots cy D ρ A 5 6 [(0, .ref (ρ a0)), (1, .long y1), (3, .int x3), (4, .int x4)] [] u :=
  g_loop (f := M_Arrays_fillJ_L6) (P := fun x => gAt p l e R s m args below meth c Q H0 cells slots cy D ρ A 5 6 [(0, .ref (ρ x.1)), (1, .long x.2.1), (3, .int x.2.2.1), (4, .int x.2.2.2.1)] [] x.2.2.2.2) (E := fun yy => (∀ y', yy = y' → gAt p l e R s m args below meth c Q H0 cells slots cy D ρ A 5 22 [] [] (y'))) (fun x z hf hN hE => t_Arrays_fillJ_b6 C hf (fun a0' y1' x3' x4' u' h => hN (a0', y1', x3', x4', u') h) (fun u' h => (hE _ h) u' rfl)) hL hE0
noncomputable def M_Arrays_fillJ (a0 : Nat) (y1 : Int64) (u : gSt) : Option (gSt) :=
  gc (gK a0 == 24) <| (gLp M_Arrays_fillJ_L6 (a0, y1, (0 : Int32), Int32.ofNat (gLen a0), u)).bind fun y6 =>
  some y6
set_option maxHeartbeats 4000000 in
set_option maxRecDepth 100000 in
theorem t_Arrays_fillJ (C : gX "java/util/Arrays" prog_27_method_101_code 5 none 0 0 R cells slots cy D ρ A p s m args meth c) {a0 : Nat} {y1 : Int64} {u : gSt} {z : gSt} (hM : M_Arrays_fillJ a0 y1 u = some z) (hR : gRtV p l e R s m args below meth c Q H0 cells slots cy D ρ A prog_27_method_101_code z) : gAt p l e R s m args below meth c Q H0 cells slots cy D ρ A 5 0 [(0, .ref (ρ a0)), (1, .long y1)] [] u := by
  intro ls H locs hl hP hS
  have hx := C.1
  have hb := C.2.1
  unfold M_Arrays_fillJ at hM
  refine lv_iconst (v := (0 : Int32)) hx hb d_Arrays_fillJ_0 (by decide) ?_
  refine lv_istore_n (lv' := [(3, .int (0 : Int32)), (0, .ref (ρ a0)), (1, .long y1)]) hx hb d_Arrays_fillJ_1 rfl hl (by decide) rfl (fun ls hl => ?_)
  refine lv_aload_n hx hb d_Arrays_fillJ_2 rfl (lv_at hl 1 rfl) ?_
  obtain ⟨h3, hM⟩ := gc_some hM
  refine g_alenL (v := Int32.ofNat (gLen a0)) C hP (eq_of_beq h3) rfl d_Arrays_fillJ_3 ?_
  refine lv_istore (lv' := [(4, .int (Int32.ofNat (gLen a0))), (3, .int (0 : Int32)), (0, .ref (ρ a0)), (1, .long y1)]) hx hb d_Arrays_fillJ_4 hl (by decide) rfl (fun ls hl => ?_)
  obtain ⟨y6, hL6, hM⟩ := gb_some hM
  refine t_Arrays_fillJ_L6 C hL6 (fun y6_0 hy => ?_) ls H locs (lv_sub hl [2, 3, 1, 0] rfl) hP hS
  · subst hy
    intro ls H locs hl hP hS
    obtain rfl := Option.some.inj hM
    exact hR _ ls H locs d_Arrays_fillJ_22 hP hS
theorem c_Arrays_fillJ {l : Launch} {cy : Nat → ClassId} {D : va_G} {ρ : Nat → Nat} {A : Nat → Prop} (hD : gD ρ A) {a0 : Nat} {y1 : Int64} {u : gSt} {z : gSt} (hM : M_Arrays_fillJ a0 y1 u = some z) : gCtV l y_Arrays_fillJ prog_27_method_101_code 5 none 0 0 cy D ρ A [.ref (ρ a0), .long y1] u z :=
  g_met (by decide) hD (Nat.le_of_ble_eq_true rfl) (fun p e s m below meth c ls X hl hP => t_Arrays_fillJ X hM (fun pc ls H locs hd hP hS => g_vret X hP hS hd) ls _ [] hl hP va_S.rf)
end
section
variable {p : Program} {l : Launch} {e : Env} {R : Room} {s : State} {m : MethodId} {args : Array Value} {below : List Frame} {meth : Method} {c : Code} {Q : State → Prop} {H0 : Heap} {cells slots : Nat} {cy : Nat → ClassId} {D : va_G} {ρ : Nat → Nat} {A : Nat → Prop}
def y_Grid_empty : MethodName := ⟨"TermDesk$Grid", "empty", "()V"⟩
theorem gi_Grid_empty : gMi y_Grid_empty prog_5_method_8_code 1 none 0 5 := ⟨(gWs_at 612 (by decide +kernel) (by decide +kernel)), (gWs_at 611 (by decide +kernel) (by decide +kernel)), (gWs_at 29 (by decide +kernel) (by decide +kernel)), (gWs_at 122 (by decide +kernel) (by decide +kernel)), ⟨by decide +kernel, by decide +kernel, by decide +kernel⟩, _, _, rfl⟩
theorem gm_Board_86 : gMk "TermDesk$Board" 86 y_Grid_empty := Or.inr ⟨"TermDesk", gNs_at 609 (by decide +kernel) (by decide +kernel)⟩
theorem d_Grid_empty_0 : decode prog_5_method_8_code 0 = .ok (.aload_n 0, 1) := by decide +kernel
theorem d_Grid_empty_1 : decode prog_5_method_8_code 1 = .ok (.getfield 9, 3) := by decide +kernel
theorem d_Grid_empty_4 : decode prog_5_method_8_code 4 = .ok (.lconst 0, 1) := by decide +kernel
theorem d_Grid_empty_5 : decode prog_5_method_8_code 5 = .ok (.invokestatic 23, 3) := by decide +kernel
theorem d_Grid_empty_8 : decode prog_5_method_8_code 8 = .ok (.return_, 1) := by decide +kernel
noncomputable def M_Grid_empty (a0 : Nat) (u : gSt) : Option (gSt) :=
  gc (gK a0 == 5) <| (gFR a0 0).bind fun r1 => (M_Arrays_fillJ r1 (0 : Int64) u).bind fun q5 =>
  some q5
set_option maxHeartbeats 4000000 in
set_option maxRecDepth 100000 in
theorem t_Grid_empty (C : gX "TermDesk$Grid" prog_5_method_8_code 1 none 1 24 R cells slots cy D ρ A p s m args meth c) {a0 : Nat} {u : gSt} {z : gSt} (hM : M_Grid_empty a0 u = some z) (hR : gRtV p l e R s m args below meth c Q H0 cells slots cy D ρ A prog_5_method_8_code z) : gAt p l e R s m args below meth c Q H0 cells slots cy D ρ A 1 0 [(0, .ref (ρ a0))] [] u := by
  intro ls H locs hl hP hS
  have hx := C.1
  have hb := C.2.1
  unfold M_Grid_empty at hM
  refine lv_aload_n hx hb d_Grid_empty_0 rfl (lv_at hl 0 rfl) ?_
  obtain ⟨h1, hM⟩ := gc_some hM
  obtain ⟨r1, hr1, hM⟩ := gb_some hM
  refine g_getR C hP gl_Grid_9 (eq_of_beq h1) rfl hr1 d_Grid_empty_1 ?_
  refine lv_lconst (v := 0) hx hb d_Grid_empty_4 (by decide) ?_
  obtain ⟨q5, hq5, hM⟩ := gb_some hM
  refine g_backV (g_runS (As := [.ref (ρ r1), .long (0 : Int64)]) C hP (c_Arrays_fillJ C.2.2.2.2.2.2.2.2.1 hq5) gi_Arrays_fillJ gm_Grid_23 rfl (by decide) (by decide) hl.1 rfl (Nat.le_of_ble_eq_true rfl) d_Grid_empty_5) hS (fun H locs hP hS => ?_)
  obtain rfl := Option.some.inj hM
  exact hR _ ls H locs d_Grid_empty_8 hP hS
theorem c_Grid_empty {l : Launch} {cy : Nat → ClassId} {D : va_G} {ρ : Nat → Nat} {A : Nat → Prop} (hD : gD ρ A) {a0 : Nat} {u : gSt} {z : gSt} (hM : M_Grid_empty a0 u = some z) : gCtV l y_Grid_empty prog_5_method_8_code 1 none 1 24 cy D ρ A [.ref (ρ a0)] u z :=
  g_met (by decide) hD (Nat.le_of_ble_eq_true rfl) (fun p e s m below meth c ls X hl hP => t_Grid_empty X hM (fun pc ls H locs hd hP hS => g_vret X hP hS hd) ls _ [] hl hP va_S.rf)
end
section
variable {p : Program} {l : Launch} {e : Env} {R : Room} {s : State} {m : MethodId} {args : Array Value} {below : List Frame} {meth : Method} {c : Code} {Q : State → Prop} {H0 : Heap} {cells slots : Nat} {cy : Nat → ClassId} {D : va_G} {ρ : Nat → Nat} {A : Nat → Prop}
def y_Grid_put : MethodName := ⟨"TermDesk$Grid", "put", "(II)V"⟩
theorem gi_Grid_put : gMi y_Grid_put prog_5_method_3_code 3 none 2 5 := ⟨(gWs_at 578 (by decide +kernel) (by decide +kernel)), (gWs_at 577 (by decide +kernel) (by decide +kernel)), (gWs_at 23 (by decide +kernel) (by decide +kernel)), (gWs_at 122 (by decide +kernel) (by decide +kernel)), ⟨by decide +kernel, by decide +kernel, by decide +kernel⟩, _, _, rfl⟩
theorem gm_Board_89 : gMk "TermDesk$Board" 89 y_Grid_put := Or.inr ⟨"TermDesk", gNs_at 575 (by decide +kernel) (by decide +kernel)⟩
theorem gm_Clerk_173 : gMk "TermDesk$Clerk" 173 y_Grid_put := Or.inr ⟨"TermDesk", gNs_at 584 (by decide +kernel) (by decide +kernel)⟩
theorem d_Grid_put_0 : decode prog_5_method_3_code 0 = .ok (.aload_n 0, 1) := by decide +kernel
theorem d_Grid_put_1 : decode prog_5_method_3_code 1 = .ok (.getfield 9, 3) := by decide +kernel
theorem d_Grid_put_4 : decode prog_5_method_3_code 4 = .ok (.iload_n 1, 1) := by decide +kernel
theorem d_Grid_put_5 : decode prog_5_method_3_code 5 = .ok (.iconst 4, 1) := by decide +kernel
theorem d_Grid_put_6 : decode prog_5_method_3_code 6 = .ok (.imul, 1) := by decide +kernel
theorem d_Grid_put_7 : decode prog_5_method_3_code 7 = .ok (.iload_n 2, 1) := by decide +kernel
theorem d_Grid_put_8 : decode prog_5_method_3_code 8 = .ok (.bipush 6, 2) := by decide +kernel
theorem d_Grid_put_10 : decode prog_5_method_3_code 10 = .ok (.ishr, 1) := by decide +kernel
theorem d_Grid_put_11 : decode prog_5_method_3_code 11 = .ok (.iadd, 1) := by decide +kernel
theorem d_Grid_put_12 : decode prog_5_method_3_code 12 = .ok (.dup2, 1) := by decide +kernel
theorem d_Grid_put_13 : decode prog_5_method_3_code 13 = .ok (.laload, 1) := by decide +kernel
theorem d_Grid_put_14 : decode prog_5_method_3_code 14 = .ok (.lconst 1, 1) := by decide +kernel
theorem d_Grid_put_15 : decode prog_5_method_3_code 15 = .ok (.iload_n 2, 1) := by decide +kernel
theorem d_Grid_put_16 : decode prog_5_method_3_code 16 = .ok (.bipush 63, 2) := by decide +kernel
theorem d_Grid_put_18 : decode prog_5_method_3_code 18 = .ok (.iand, 1) := by decide +kernel
theorem d_Grid_put_19 : decode prog_5_method_3_code 19 = .ok (.lshl, 1) := by decide +kernel
theorem d_Grid_put_20 : decode prog_5_method_3_code 20 = .ok (.lor, 1) := by decide +kernel
theorem d_Grid_put_21 : decode prog_5_method_3_code 21 = .ok (.lastore, 1) := by decide +kernel
theorem d_Grid_put_22 : decode prog_5_method_3_code 22 = .ok (.return_, 1) := by decide +kernel
noncomputable def M_Grid_put (a0 : Nat) (x1 : Int32) (x2 : Int32) (u : gSt) : Option (gSt) :=
  gc (gK a0 == 5) <| (gFR a0 0).bind fun r1 => gc (gK r1 == 24) <| gc (gIn ((x1 * (4 : Int32)) + (x2 >>> ((6 : Int32) &&& (31 : Int32)))) (gLen r1)) <| gc (gK r1 == 24) <| gc (gIn ((x1 * (4 : Int32)) + (x2 >>> ((6 : Int32) &&& (31 : Int32)))) (gLen r1)) <| (some (gsL u r1 (gIx ((x1 * (4 : Int32)) + (x2 >>> ((6 : Int32) &&& (31 : Int32))))) ((u.2.2.2 r1 (gIx ((x1 * (4 : Int32)) + (x2 >>> ((6 : Int32) &&& (31 : Int32)))))) ||| ((1 : Int64) <<< ((x2 &&& (63 : Int32)).toInt64 &&& (63 : Int64)))))).bind fun u21 =>
  some u21
set_option maxHeartbeats 4000000 in
set_option maxRecDepth 100000 in
theorem t_Grid_put (C : gX "TermDesk$Grid" prog_5_method_3_code 3 none 0 0 R cells slots cy D ρ A p s m args meth c) {a0 : Nat} {x1 : Int32} {x2 : Int32} {u : gSt} {z : gSt} (hM : M_Grid_put a0 x1 x2 u = some z) (hR : gRtV p l e R s m args below meth c Q H0 cells slots cy D ρ A prog_5_method_3_code z) : gAt p l e R s m args below meth c Q H0 cells slots cy D ρ A 3 0 [(0, .ref (ρ a0)), (1, .int x1), (2, .int x2)] [] u := by
  intro ls H locs hl hP hS
  have hx := C.1
  have hb := C.2.1
  unfold M_Grid_put at hM
  refine lv_aload_n hx hb d_Grid_put_0 rfl (lv_at hl 0 rfl) ?_
  obtain ⟨h1, hM⟩ := gc_some hM
  obtain ⟨r1, hr1, hM⟩ := gb_some hM
  refine g_getR C hP gl_Grid_9 (eq_of_beq h1) rfl hr1 d_Grid_put_1 ?_
  refine lv_iload_n hx hb d_Grid_put_4 rfl (lv_at hl 1 rfl) ?_
  refine lv_iconst (v := (4 : Int32)) hx hb d_Grid_put_5 (by decide) ?_
  refine lv_imul hx hb d_Grid_put_6 ?_
  refine lv_iload_n hx hb d_Grid_put_7 rfl (lv_at hl 2 rfl) ?_
  refine lv_bipush (v := (6 : Int32)) hx hb d_Grid_put_8 (by decide) ?_
  refine lv_ishr hx hb d_Grid_put_10 ?_
  refine lv_iadd hx hb d_Grid_put_11 ?_
  refine lv_dup2_11 hx hb d_Grid_put_12 rfl rfl ?_
  obtain ⟨h13, hM⟩ := gc_some hM
  obtain ⟨hi13, hM⟩ := gc_some hM
  refine g_lald C hP (eq_of_beq h13) hi13 d_Grid_put_13 ?_
  refine lv_lconst (v := 1) hx hb d_Grid_put_14 (by decide) ?_
  refine lv_iload_n hx hb d_Grid_put_15 rfl (lv_at hl 2 rfl) ?_
  refine lv_bipush (v := (63 : Int32)) hx hb d_Grid_put_16 (by decide) ?_
  refine lv_iand hx hb d_Grid_put_18 ?_
  refine lv_lshl (v := (1 : Int64) <<< ((x2 &&& (63 : Int32)).toInt64 &&& (63 : Int64))) hx hb d_Grid_put_19 rfl ?_
  refine lv_lor hx hb d_Grid_put_20 ?_
  obtain ⟨h21, hM⟩ := gc_some hM
  obtain ⟨hi21, hM⟩ := gc_some hM
  obtain ⟨u21, e21, hM⟩ := gb_some hM
  refine g_last C hP hS (eq_of_beq h21) hi21 d_Grid_put_21 (fun H locs hP hS => ?_)
  rw [Option.some.inj e21] at hP
  obtain rfl := Option.some.inj hM
  exact hR _ ls H locs d_Grid_put_22 hP hS
theorem c_Grid_put {l : Launch} {cy : Nat → ClassId} {D : va_G} {ρ : Nat → Nat} {A : Nat → Prop} (hD : gD ρ A) {a0 : Nat} {x1 : Int32} {x2 : Int32} {u : gSt} {z : gSt} (hM : M_Grid_put a0 x1 x2 u = some z) : gCtV l y_Grid_put prog_5_method_3_code 3 none 0 0 cy D ρ A [.ref (ρ a0), .int x1, .int x2] u z :=
  g_met (by decide) hD (Nat.le_of_ble_eq_true rfl) (fun p e s m below meth c ls X hl hP => t_Grid_put X hM (fun pc ls H locs hd hP hS => g_vret X hP hS hd) ls _ [] hl hP va_S.rf)
end
section
variable {p : Program} {l : Launch} {e : Env} {R : Room} {s : State} {m : MethodId} {args : Array Value} {below : List Frame} {meth : Method} {c : Code} {Q : State → Prop} {H0 : Heap} {cells slots : Nat} {cy : Nat → ClassId} {D : va_G} {ρ : Nat → Nat} {A : Nat → Prop}
def y_Grid_emptyRow : MethodName := ⟨"TermDesk$Grid", "emptyRow", "(I)V"⟩
theorem gi_Grid_emptyRow : gMi y_Grid_emptyRow prog_5_method_7_code 3 none 1 5 := ⟨(gWs_at 815 (by decide +kernel) (by decide +kernel)), (gWs_at 814 (by decide +kernel) (by decide +kernel)), (gWs_at 42 (by decide +kernel) (by decide +kernel)), (gWs_at 122 (by decide +kernel) (by decide +kernel)), ⟨by decide +kernel, by decide +kernel, by decide +kernel⟩, _, _, rfl⟩
theorem gm_Board_93 : gMk "TermDesk$Board" 93 y_Grid_emptyRow := Or.inr ⟨"TermDesk", gNs_at 812 (by decide +kernel) (by decide +kernel)⟩
theorem d_Grid_emptyRow_0 : decode prog_5_method_7_code 0 = .ok (.iconst 0, 1) := by decide +kernel
theorem d_Grid_emptyRow_1 : decode prog_5_method_7_code 1 = .ok (.istore_n 2, 1) := by decide +kernel
theorem d_Grid_emptyRow_2 : decode prog_5_method_7_code 2 = .ok (.iload_n 2, 1) := by decide +kernel
theorem d_Grid_emptyRow_3 : decode prog_5_method_7_code 3 = .ok (.iconst 4, 1) := by decide +kernel
theorem d_Grid_emptyRow_4 : decode prog_5_method_7_code 4 = .ok (.if_icmp .ge 20, 3) := by decide +kernel
theorem d_Grid_emptyRow_7 : decode prog_5_method_7_code 7 = .ok (.aload_n 0, 1) := by decide +kernel
theorem d_Grid_emptyRow_8 : decode prog_5_method_7_code 8 = .ok (.getfield 9, 3) := by decide +kernel
theorem d_Grid_emptyRow_11 : decode prog_5_method_7_code 11 = .ok (.iload_n 1, 1) := by decide +kernel
theorem d_Grid_emptyRow_12 : decode prog_5_method_7_code 12 = .ok (.iconst 4, 1) := by decide +kernel
theorem d_Grid_emptyRow_13 : decode prog_5_method_7_code 13 = .ok (.imul, 1) := by decide +kernel
theorem d_Grid_emptyRow_14 : decode prog_5_method_7_code 14 = .ok (.iload_n 2, 1) := by decide +kernel
theorem d_Grid_emptyRow_15 : decode prog_5_method_7_code 15 = .ok (.iadd, 1) := by decide +kernel
theorem d_Grid_emptyRow_16 : decode prog_5_method_7_code 16 = .ok (.lconst 0, 1) := by decide +kernel
theorem d_Grid_emptyRow_17 : decode prog_5_method_7_code 17 = .ok (.lastore, 1) := by decide +kernel
theorem d_Grid_emptyRow_18 : decode prog_5_method_7_code 18 = .ok (.iinc 2 1, 3) := by decide +kernel
theorem d_Grid_emptyRow_21 : decode prog_5_method_7_code 21 = .ok (.goto (-19), 3) := by decide +kernel
theorem d_Grid_emptyRow_24 : decode prog_5_method_7_code 24 = .ok (.return_, 1) := by decide +kernel
noncomputable def M_Grid_emptyRow_b2 (a0 : Nat) (x1 : Int32) (x2 : Int32) (u : gSt) : Option ((Nat × Int32 × Int32 × gSt) ⊕ ((gSt))) :=
  if (4 : Int32) ≤ x2 then
    (some (.inr u))
  else
    (gc (gK a0 == 5) <| (gFR a0 0).bind fun r8 => gc (gK r8 == 24) <| gc (gIn ((x1 * (4 : Int32)) + x2) (gLen r8)) <| (some (gsL u r8 (gIx ((x1 * (4 : Int32)) + x2)) (0 : Int64))).bind fun u17 =>
    some (.inl (a0, x1, x2 + (1 : Int32), u17)))
set_option maxHeartbeats 4000000 in
set_option maxRecDepth 100000 in
theorem t_Grid_emptyRow_b2 (C : gX "TermDesk$Grid" prog_5_method_7_code 3 none 0 0 R cells slots cy D ρ A p s m args meth c) {a0 : Nat} {x1 : Int32} {x2 : Int32} {u : gSt} {z : (Nat × Int32 × Int32 × gSt) ⊕ ((gSt))} (hM : M_Grid_emptyRow_b2 a0 x1 x2 u = some z) (hN : ∀ a0' x1' x2' u', z = .inl (a0', x1', x2', u') → gAt p l e R s m args below meth c Q H0 cells slots cy D ρ A 3 2 [(0, .ref (ρ (a0'))), (1, .int (x1')), (2, .int (x2'))] [] (u')) (hE0 : ∀ u', z = .inr u' → gAt p l e R s m args below meth c Q H0 cells slots cy D ρ A 3 24 [] [] (u')) : gAt p l e R s m args below meth c Q H0 cells slots cy D ρ A 3 2 [(0, .ref (ρ a0)), (1, .int x1), (2, .int x2)] [] u := by
  intro ls H locs hl hP hS
  have hx := C.1
  have hb := C.2.1
  unfold M_Grid_emptyRow_b2 at hM
  refine lv_iload_n hx hb d_Grid_emptyRow_2 rfl (lv_at hl 2 rfl) ?_
  refine lv_iconst (v := (4 : Int32)) hx hb d_Grid_emptyRow_3 (by decide) ?_
  refine lv_icmp_ge (tgt := 24) hx hb d_Grid_emptyRow_4 (by decide) (fun hc4 => ?_) (fun hc4 => ?_)
  · replace hM := gi_t hc4 hM
    exact hE0 _ (Option.some.inj hM).symm ls H locs (lv_sub hl [] rfl) hP hS
  · replace hM := gi_f hc4 hM
    refine lv_aload_n hx hb d_Grid_emptyRow_7 rfl (lv_at hl 0 rfl) ?_
    obtain ⟨h8, hM⟩ := gc_some hM
    obtain ⟨r8, hr8, hM⟩ := gb_some hM
    refine g_getR C hP gl_Grid_9 (eq_of_beq h8) rfl hr8 d_Grid_emptyRow_8 ?_
    refine lv_iload_n hx hb d_Grid_emptyRow_11 rfl (lv_at hl 1 rfl) ?_
    refine lv_iconst (v := (4 : Int32)) hx hb d_Grid_emptyRow_12 (by decide) ?_
    refine lv_imul hx hb d_Grid_emptyRow_13 ?_
    refine lv_iload_n hx hb d_Grid_emptyRow_14 rfl (lv_at hl 2 rfl) ?_
    refine lv_iadd hx hb d_Grid_emptyRow_15 ?_
    refine lv_lconst (v := 0) hx hb d_Grid_emptyRow_16 (by decide) ?_
    obtain ⟨h17, hM⟩ := gc_some hM
    obtain ⟨hi17, hM⟩ := gc_some hM
    obtain ⟨u17, e17, hM⟩ := gb_some hM
    refine g_last C hP hS (eq_of_beq h17) hi17 d_Grid_emptyRow_17 (fun H locs hP hS => ?_)
    rw [Option.some.inj e17] at hP
    refine lv_iinc (k := 2) (v := x2 + (1 : Int32)) (lv' := [(2, .int (x2 + (1 : Int32))), (0, .ref (ρ a0)), (1, .int x1)]) hx hb d_Grid_emptyRow_18 hl rfl (congrArg (fun z => x2 + z) (by decide)) (by decide) rfl (fun ls hl => ?_)
    refine lv_goto (tgt := 2) hx hb d_Grid_emptyRow_21 (by decide) ?_
    exact hN _ _ _ _ (Option.some.inj hM).symm ls H locs (lv_sub hl [1, 2, 0] rfl) hP hS
noncomputable def M_Grid_emptyRow_L2 : (Nat × Int32 × Int32 × gSt) → Option ((Nat × Int32 × Int32 × gSt) ⊕ ((gSt))) := fun x => M_Grid_emptyRow_b2 x.1 x.2.1 x.2.2.1 x.2.2.2
theorem t_Grid_emptyRow_L2 (C : gX "TermDesk$Grid" prog_5_method_7_code 3 none 0 0 R cells slots cy D ρ A p s m args meth c) {a0 : Nat} {x1 : Int32} {x2 : Int32} {u : gSt} {yy : (gSt)} (hL : gLp M_Grid_emptyRow_L2 (a0, x1, x2, u) = some yy) (hE0 : (∀ y', yy = y' → gAt p l e R s m args below meth c Q H0 cells slots cy D ρ A 3 24 [] [] (y'))) : gAt p l e R s m args below meth c Q H0 cells slots cy D ρ A 3 2 [(0, .ref (ρ a0)), (1, .int x1), (2, .int x2)] [] u :=
  g_loop (f := M_Grid_emptyRow_L2) (P := fun x => gAt p l e R s m args below meth c Q H0 cells slots cy D ρ A 3 2 [(0, .ref (ρ x.1)), (1, .int x.2.1), (2, .int x.2.2.1)] [] x.2.2.2) (E := fun yy => (∀ y', yy = y' → gAt p l e R s m args below meth c Q H0 cells slots cy D ρ A 3 24 [] [] (y'))) (fun x z hf hN hE => t_Grid_emptyRow_b2 C hf (fun a0' x1' x2' u' h => hN (a0', x1', x2', u') h) (fun u' h => (hE _ h) u' rfl)) hL hE0
noncomputable def M_Grid_emptyRow (a0 : Nat) (x1 : Int32) (u : gSt) : Option (gSt) :=
  (gLp M_Grid_emptyRow_L2 (a0, x1, (0 : Int32), u)).bind fun y2 =>
  some y2
set_option maxHeartbeats 4000000 in
set_option maxRecDepth 100000 in
theorem t_Grid_emptyRow (C : gX "TermDesk$Grid" prog_5_method_7_code 3 none 0 0 R cells slots cy D ρ A p s m args meth c) {a0 : Nat} {x1 : Int32} {u : gSt} {z : gSt} (hM : M_Grid_emptyRow a0 x1 u = some z) (hR : gRtV p l e R s m args below meth c Q H0 cells slots cy D ρ A prog_5_method_7_code z) : gAt p l e R s m args below meth c Q H0 cells slots cy D ρ A 3 0 [(0, .ref (ρ a0)), (1, .int x1)] [] u := by
  intro ls H locs hl hP hS
  have hx := C.1
  have hb := C.2.1
  unfold M_Grid_emptyRow at hM
  refine lv_iconst (v := (0 : Int32)) hx hb d_Grid_emptyRow_0 (by decide) ?_
  refine lv_istore_n (lv' := [(2, .int (0 : Int32)), (0, .ref (ρ a0)), (1, .int x1)]) hx hb d_Grid_emptyRow_1 rfl hl (by decide) rfl (fun ls hl => ?_)
  obtain ⟨y2, hL2, hM⟩ := gb_some hM
  refine t_Grid_emptyRow_L2 C hL2 (fun y2_0 hy => ?_) ls H locs (lv_sub hl [1, 2, 0] rfl) hP hS
  · subst hy
    intro ls H locs hl hP hS
    obtain rfl := Option.some.inj hM
    exact hR _ ls H locs d_Grid_emptyRow_24 hP hS
theorem c_Grid_emptyRow {l : Launch} {cy : Nat → ClassId} {D : va_G} {ρ : Nat → Nat} {A : Nat → Prop} (hD : gD ρ A) {a0 : Nat} {x1 : Int32} {u : gSt} {z : gSt} (hM : M_Grid_emptyRow a0 x1 u = some z) : gCtV l y_Grid_emptyRow prog_5_method_7_code 3 none 0 0 cy D ρ A [.ref (ρ a0), .int x1] u z :=
  g_met (by decide) hD (Nat.le_of_ble_eq_true rfl) (fun p e s m below meth c ls X hl hP => t_Grid_emptyRow X hM (fun pc ls H locs hd hP hS => g_vret X hP hS hd) ls _ [] hl hP va_S.rf)
end
section
variable {p : Program} {l : Launch} {e : Env} {R : Room} {s : State} {m : MethodId} {args : Array Value} {below : List Frame} {meth : Method} {c : Code} {Q : State → Prop} {H0 : Heap} {cells slots : Nat} {cy : Nat → ClassId} {D : va_G} {ρ : Nat → Nat} {A : Nat → Prop}
def y_Grid_join : MethodName := ⟨"TermDesk$Grid", "join", "(ILTermDesk$Grid;I)V"⟩
theorem gi_Grid_join : gMi y_Grid_join prog_5_method_4_code 5 none 3 5 := ⟨(gWs_at 583 (by decide +kernel) (by decide +kernel)), (gWs_at 582 (by decide +kernel) (by decide +kernel)), (gWs_at 24 (by decide +kernel) (by decide +kernel)), (gWs_at 122 (by decide +kernel) (by decide +kernel)), ⟨by decide +kernel, by decide +kernel, by decide +kernel⟩, _, _, rfl⟩
theorem gm_Board_96 : gMk "TermDesk$Board" 96 y_Grid_join := Or.inr ⟨"TermDesk", gNs_at 580 (by decide +kernel) (by decide +kernel)⟩
theorem d_Grid_join_0 : decode prog_5_method_4_code 0 = .ok (.iconst 0, 1) := by decide +kernel
theorem d_Grid_join_1 : decode prog_5_method_4_code 1 = .ok (.istore 4, 2) := by decide +kernel
theorem d_Grid_join_3 : decode prog_5_method_4_code 3 = .ok (.iload 4, 2) := by decide +kernel
theorem d_Grid_join_5 : decode prog_5_method_4_code 5 = .ok (.iconst 4, 1) := by decide +kernel
theorem d_Grid_join_6 : decode prog_5_method_4_code 6 = .ok (.if_icmp .ge 34, 3) := by decide +kernel
theorem d_Grid_join_9 : decode prog_5_method_4_code 9 = .ok (.aload_n 0, 1) := by decide +kernel
theorem d_Grid_join_10 : decode prog_5_method_4_code 10 = .ok (.getfield 9, 3) := by decide +kernel
theorem d_Grid_join_13 : decode prog_5_method_4_code 13 = .ok (.iload_n 1, 1) := by decide +kernel
theorem d_Grid_join_14 : decode prog_5_method_4_code 14 = .ok (.iconst 4, 1) := by decide +kernel
theorem d_Grid_join_15 : decode prog_5_method_4_code 15 = .ok (.imul, 1) := by decide +kernel
theorem d_Grid_join_16 : decode prog_5_method_4_code 16 = .ok (.iload 4, 2) := by decide +kernel
theorem d_Grid_join_18 : decode prog_5_method_4_code 18 = .ok (.iadd, 1) := by decide +kernel
theorem d_Grid_join_19 : decode prog_5_method_4_code 19 = .ok (.dup2, 1) := by decide +kernel
theorem d_Grid_join_20 : decode prog_5_method_4_code 20 = .ok (.laload, 1) := by decide +kernel
theorem d_Grid_join_21 : decode prog_5_method_4_code 21 = .ok (.aload_n 2, 1) := by decide +kernel
theorem d_Grid_join_22 : decode prog_5_method_4_code 22 = .ok (.getfield 9, 3) := by decide +kernel
theorem d_Grid_join_25 : decode prog_5_method_4_code 25 = .ok (.iload_n 3, 1) := by decide +kernel
theorem d_Grid_join_26 : decode prog_5_method_4_code 26 = .ok (.iconst 4, 1) := by decide +kernel
theorem d_Grid_join_27 : decode prog_5_method_4_code 27 = .ok (.imul, 1) := by decide +kernel
theorem d_Grid_join_28 : decode prog_5_method_4_code 28 = .ok (.iload 4, 2) := by decide +kernel
theorem d_Grid_join_30 : decode prog_5_method_4_code 30 = .ok (.iadd, 1) := by decide +kernel
theorem d_Grid_join_31 : decode prog_5_method_4_code 31 = .ok (.laload, 1) := by decide +kernel
theorem d_Grid_join_32 : decode prog_5_method_4_code 32 = .ok (.lor, 1) := by decide +kernel
theorem d_Grid_join_33 : decode prog_5_method_4_code 33 = .ok (.lastore, 1) := by decide +kernel
theorem d_Grid_join_34 : decode prog_5_method_4_code 34 = .ok (.iinc 4 1, 3) := by decide +kernel
theorem d_Grid_join_37 : decode prog_5_method_4_code 37 = .ok (.goto (-34), 3) := by decide +kernel
theorem d_Grid_join_40 : decode prog_5_method_4_code 40 = .ok (.return_, 1) := by decide +kernel
noncomputable def M_Grid_join_b3 (a0 : Nat) (x1 : Int32) (a2 : Nat) (x3 : Int32) (x4 : Int32) (u : gSt) : Option ((Nat × Int32 × Nat × Int32 × Int32 × gSt) ⊕ ((gSt))) :=
  if (4 : Int32) ≤ x4 then
    (some (.inr u))
  else
    (gc (gK a0 == 5) <| (gFR a0 0).bind fun r10 => gc (gK r10 == 24) <| gc (gIn ((x1 * (4 : Int32)) + x4) (gLen r10)) <| gc (gK a2 == 5) <| (gFR a2 0).bind fun r22 => gc (gK r22 == 24) <| gc (gIn ((x3 * (4 : Int32)) + x4) (gLen r22)) <| gc (gK r10 == 24) <| gc (gIn ((x1 * (4 : Int32)) + x4) (gLen r10)) <| (some (gsL u r10 (gIx ((x1 * (4 : Int32)) + x4)) ((u.2.2.2 r10 (gIx ((x1 * (4 : Int32)) + x4))) ||| (u.2.2.2 r22 (gIx ((x3 * (4 : Int32)) + x4)))))).bind fun u33 =>
    some (.inl (a0, x1, a2, x3, x4 + (1 : Int32), u33)))
set_option maxHeartbeats 4000000 in
set_option maxRecDepth 100000 in
theorem t_Grid_join_b3 (C : gX "TermDesk$Grid" prog_5_method_4_code 5 none 0 0 R cells slots cy D ρ A p s m args meth c) {a0 : Nat} {x1 : Int32} {a2 : Nat} {x3 : Int32} {x4 : Int32} {u : gSt} {z : (Nat × Int32 × Nat × Int32 × Int32 × gSt) ⊕ ((gSt))} (hM : M_Grid_join_b3 a0 x1 a2 x3 x4 u = some z) (hN : ∀ a0' x1' a2' x3' x4' u', z = .inl (a0', x1', a2', x3', x4', u') → gAt p l e R s m args below meth c Q H0 cells slots cy D ρ A 5 3 [(0, .ref (ρ (a0'))), (1, .int (x1')), (2, .ref (ρ (a2'))), (3, .int (x3')), (4, .int (x4'))] [] (u')) (hE0 : ∀ u', z = .inr u' → gAt p l e R s m args below meth c Q H0 cells slots cy D ρ A 5 40 [] [] (u')) : gAt p l e R s m args below meth c Q H0 cells slots cy D ρ A 5 3 [(0, .ref (ρ a0)), (1, .int x1), (2, .ref (ρ a2)), (3, .int x3), (4, .int x4)] [] u := by
  intro ls H locs hl hP hS
  have hx := C.1
  have hb := C.2.1
  unfold M_Grid_join_b3 at hM
  refine lv_iload hx hb d_Grid_join_3 (lv_at hl 4 rfl) ?_
  refine lv_iconst (v := (4 : Int32)) hx hb d_Grid_join_5 (by decide) ?_
  refine lv_icmp_ge (tgt := 40) hx hb d_Grid_join_6 (by decide) (fun hc6 => ?_) (fun hc6 => ?_)
  · replace hM := gi_t hc6 hM
    exact hE0 _ (Option.some.inj hM).symm ls H locs (lv_sub hl [] rfl) hP hS
  · replace hM := gi_f hc6 hM
    refine lv_aload_n hx hb d_Grid_join_9 rfl (lv_at hl 0 rfl) ?_
    obtain ⟨h10, hM⟩ := gc_some hM
    obtain ⟨r10, hr10, hM⟩ := gb_some hM
    refine g_getR C hP gl_Grid_9 (eq_of_beq h10) rfl hr10 d_Grid_join_10 ?_
    refine lv_iload_n hx hb d_Grid_join_13 rfl (lv_at hl 1 rfl) ?_
    refine lv_iconst (v := (4 : Int32)) hx hb d_Grid_join_14 (by decide) ?_
    refine lv_imul hx hb d_Grid_join_15 ?_
    refine lv_iload hx hb d_Grid_join_16 (lv_at hl 4 rfl) ?_
    refine lv_iadd hx hb d_Grid_join_18 ?_
    refine lv_dup2_11 hx hb d_Grid_join_19 rfl rfl ?_
    obtain ⟨h20, hM⟩ := gc_some hM
    obtain ⟨hi20, hM⟩ := gc_some hM
    refine g_lald C hP (eq_of_beq h20) hi20 d_Grid_join_20 ?_
    refine lv_aload_n hx hb d_Grid_join_21 rfl (lv_at hl 2 rfl) ?_
    obtain ⟨h22, hM⟩ := gc_some hM
    obtain ⟨r22, hr22, hM⟩ := gb_some hM
    refine g_getR C hP gl_Grid_9 (eq_of_beq h22) rfl hr22 d_Grid_join_22 ?_
    refine lv_iload_n hx hb d_Grid_join_25 rfl (lv_at hl 3 rfl) ?_
    refine lv_iconst (v := (4 : Int32)) hx hb d_Grid_join_26 (by decide) ?_
    refine lv_imul hx hb d_Grid_join_27 ?_
    refine lv_iload hx hb d_Grid_join_28 (lv_at hl 4 rfl) ?_
    refine lv_iadd hx hb d_Grid_join_30 ?_
    obtain ⟨h31, hM⟩ := gc_some hM
    obtain ⟨hi31, hM⟩ := gc_some hM
    refine g_lald C hP (eq_of_beq h31) hi31 d_Grid_join_31 ?_
    refine lv_lor hx hb d_Grid_join_32 ?_
    obtain ⟨h33, hM⟩ := gc_some hM
    obtain ⟨hi33, hM⟩ := gc_some hM
    obtain ⟨u33, e33, hM⟩ := gb_some hM
    refine g_last C hP hS (eq_of_beq h33) hi33 d_Grid_join_33 (fun H locs hP hS => ?_)
    rw [Option.some.inj e33] at hP
    refine lv_iinc (k := 4) (v := x4 + (1 : Int32)) (lv' := [(4, .int (x4 + (1 : Int32))), (0, .ref (ρ a0)), (1, .int x1), (2, .ref (ρ a2)), (3, .int x3)]) hx hb d_Grid_join_34 hl rfl (congrArg (fun z => x4 + z) (by decide)) (by decide) rfl (fun ls hl => ?_)
    refine lv_goto (tgt := 3) hx hb d_Grid_join_37 (by decide) ?_
    exact hN _ _ _ _ _ _ (Option.some.inj hM).symm ls H locs (lv_sub hl [1, 2, 3, 4, 0] rfl) hP hS
noncomputable def M_Grid_join_L3 : (Nat × Int32 × Nat × Int32 × Int32 × gSt) → Option ((Nat × Int32 × Nat × Int32 × Int32 × gSt) ⊕ ((gSt))) := fun x => M_Grid_join_b3 x.1 x.2.1 x.2.2.1 x.2.2.2.1 x.2.2.2.2.1 x.2.2.2.2.2
theorem t_Grid_join_L3 (C : gX "TermDesk$Grid" prog_5_method_4_code 5 none 0 0 R cells slots cy D ρ A p s m args meth c) {a0 : Nat} {x1 : Int32} {a2 : Nat} {x3 : Int32} {x4 : Int32} {u : gSt} {yy : (gSt)} (hL : gLp M_Grid_join_L3 (a0, x1, a2, x3, x4, u) = some yy) (hE0 : (∀ y', yy = y' → gAt p l e R s m args below meth c Q H0 cells slots cy D ρ A 5 40 [] [] (y'))) : gAt p l e R s m args below meth c Q H0 cells slots cy D ρ A 5 3 [(0, .ref (ρ a0)), (1, .int x1), (2, .ref (ρ a2)), (3, .int x3), (4, .int x4)] [] u :=
  g_loop (f := M_Grid_join_L3) (P := fun x => gAt p l e R s m args below meth c Q H0 cells slots cy D ρ A 5 3 [(0, .ref (ρ x.1)), (1, .int x.2.1), (2, .ref (ρ x.2.2.1)), (3, .int x.2.2.2.1), (4, .int x.2.2.2.2.1)] [] x.2.2.2.2.2) (E := fun yy => (∀ y', yy = y' → gAt p l e R s m args below meth c Q H0 cells slots cy D ρ A 5 40 [] [] (y'))) (fun x z hf hN hE => t_Grid_join_b3 C hf (fun a0' x1' a2' x3' x4' u' h => hN (a0', x1', a2', x3', x4', u') h) (fun u' h => (hE _ h) u' rfl)) hL hE0
noncomputable def M_Grid_join (a0 : Nat) (x1 : Int32) (a2 : Nat) (x3 : Int32) (u : gSt) : Option (gSt) :=
  (gLp M_Grid_join_L3 (a0, x1, a2, x3, (0 : Int32), u)).bind fun y3 =>
  some y3
set_option maxHeartbeats 4000000 in
set_option maxRecDepth 100000 in
theorem t_Grid_join (C : gX "TermDesk$Grid" prog_5_method_4_code 5 none 0 0 R cells slots cy D ρ A p s m args meth c) {a0 : Nat} {x1 : Int32} {a2 : Nat} {x3 : Int32} {u : gSt} {z : gSt} (hM : M_Grid_join a0 x1 a2 x3 u = some z) (hR : gRtV p l e R s m args below meth c Q H0 cells slots cy D ρ A prog_5_method_4_code z) : gAt p l e R s m args below meth c Q H0 cells slots cy D ρ A 5 0 [(0, .ref (ρ a0)), (1, .int x1), (2, .ref (ρ a2)), (3, .int x3)] [] u := by
  intro ls H locs hl hP hS
  have hx := C.1
  have hb := C.2.1
  unfold M_Grid_join at hM
  refine lv_iconst (v := (0 : Int32)) hx hb d_Grid_join_0 (by decide) ?_
  refine lv_istore (lv' := [(4, .int (0 : Int32)), (0, .ref (ρ a0)), (1, .int x1), (2, .ref (ρ a2)), (3, .int x3)]) hx hb d_Grid_join_1 hl (by decide) rfl (fun ls hl => ?_)
  obtain ⟨y3, hL3, hM⟩ := gb_some hM
  refine t_Grid_join_L3 C hL3 (fun y3_0 hy => ?_) ls H locs (lv_sub hl [1, 2, 3, 4, 0] rfl) hP hS
  · subst hy
    intro ls H locs hl hP hS
    obtain rfl := Option.some.inj hM
    exact hR _ ls H locs d_Grid_join_40 hP hS
theorem c_Grid_join {l : Launch} {cy : Nat → ClassId} {D : va_G} {ρ : Nat → Nat} {A : Nat → Prop} (hD : gD ρ A) {a0 : Nat} {x1 : Int32} {a2 : Nat} {x3 : Int32} {u : gSt} {z : gSt} (hM : M_Grid_join a0 x1 a2 x3 u = some z) : gCtV l y_Grid_join prog_5_method_4_code 5 none 0 0 cy D ρ A [.ref (ρ a0), .int x1, .ref (ρ a2), .int x3] u z :=
  g_met (by decide) hD (Nat.le_of_ble_eq_true rfl) (fun p e s m below meth c ls X hl hP => t_Grid_join X hM (fun pc ls H locs hd hP hS => g_vret X hP hS hd) ls _ [] hl hP va_S.rf)
end
section
variable {p : Program} {l : Launch} {e : Env} {R : Room} {s : State} {m : MethodId} {args : Array Value} {below : List Frame} {meth : Method} {c : Code} {Q : State → Prop} {H0 : Heap} {cells slots : Nat} {cy : Nat → ClassId} {D : va_G} {ρ : Nat → Nat} {A : Nat → Prop}
def y_Wide_copy : MethodName := ⟨"TermDesk$Wide", "copy", "([I[I)V"⟩
theorem gi_Wide_copy : gMs y_Wide_copy prog_11_method_3_code 2 none 2 := ⟨(gWs_at 899 (by decide +kernel) (by decide +kernel)), (gWs_at 898 (by decide +kernel) (by decide +kernel)), (gWs_at 139 (by decide +kernel) (by decide +kernel)), ⟨by decide +kernel, by decide +kernel, by decide +kernel⟩⟩
theorem gm_Ranking_113 : gMk "TermDesk$Ranking" 113 y_Wide_copy := Or.inr ⟨"TermDesk", gNs_at 897 (by decide +kernel) (by decide +kernel)⟩
theorem gm_Strip_28 : gMk "TermDesk$Strip" 28 y_Wide_copy := Or.inr ⟨"TermDesk", gNs_at 977 (by decide +kernel) (by decide +kernel)⟩
theorem d_Wide_copy_0 : decode prog_11_method_3_code 0 = .ok (.aload_n 0, 1) := by decide +kernel
theorem d_Wide_copy_1 : decode prog_11_method_3_code 1 = .ok (.iconst 0, 1) := by decide +kernel
theorem d_Wide_copy_2 : decode prog_11_method_3_code 2 = .ok (.aload_n 1, 1) := by decide +kernel
theorem d_Wide_copy_3 : decode prog_11_method_3_code 3 = .ok (.iconst 0, 1) := by decide +kernel
theorem d_Wide_copy_4 : decode prog_11_method_3_code 4 = .ok (.bipush 8, 2) := by decide +kernel
theorem d_Wide_copy_6 : decode prog_11_method_3_code 6 = .ok (.invokestatic 15, 3) := by decide +kernel
theorem d_Wide_copy_9 : decode prog_11_method_3_code 9 = .ok (.return_, 1) := by decide +kernel
noncomputable def M_Wide_copy (a0 : Nat) (a1 : Nat) (u : gSt) : Option (gSt) :=
  gc (gK a0 == 22) <| gc (gK a1 == 22) <| gc (gCpOk a0 (0 : Int32) a1 (0 : Int32) (8 : Int32)) <| (some (gsC u a0 (0 : Int32) a1 (0 : Int32) (8 : Int32))).bind fun u6 =>
  some u6
set_option maxHeartbeats 4000000 in
set_option maxRecDepth 100000 in
theorem t_Wide_copy (C : gX "TermDesk$Wide" prog_11_method_3_code 2 none 1 60 R cells slots cy D ρ A p s m args meth c) {a0 : Nat} {a1 : Nat} {u : gSt} {z : gSt} (hM : M_Wide_copy a0 a1 u = some z) (hR : gRtV p l e R s m args below meth c Q H0 cells slots cy D ρ A prog_11_method_3_code z) : gAt p l e R s m args below meth c Q H0 cells slots cy D ρ A 2 0 [(0, .ref (ρ a0)), (1, .ref (ρ a1))] [] u := by
  intro ls H locs hl hP hS
  have hx := C.1
  have hb := C.2.1
  unfold M_Wide_copy at hM
  refine lv_aload_n hx hb d_Wide_copy_0 rfl (lv_at hl 0 rfl) ?_
  refine lv_iconst (v := (0 : Int32)) hx hb d_Wide_copy_1 (by decide) ?_
  refine lv_aload_n hx hb d_Wide_copy_2 rfl (lv_at hl 1 rfl) ?_
  refine lv_iconst (v := (0 : Int32)) hx hb d_Wide_copy_3 (by decide) ?_
  refine lv_bipush (v := (8 : Int32)) hx hb d_Wide_copy_4 (by decide) ?_
  obtain ⟨hp6, hM⟩ := gc_some hM
  obtain ⟨hq6, hM⟩ := gc_some hM
  obtain ⟨hi6, hM⟩ := gc_some hM
  obtain ⟨u6, e6, hM⟩ := gb_some hM
  refine g_copy C hP hS (gWs_at 900 (by decide +kernel) (by decide +kernel)) hl.1 (eq_of_beq hp6) (eq_of_beq hq6) hi6 (Nat.le_of_ble_eq_true rfl) (by decide) (by decide) d_Wide_copy_6 (fun H locs hP hS => ?_)
  rw [Option.some.inj e6] at hP
  obtain rfl := Option.some.inj hM
  exact hR _ ls H locs d_Wide_copy_9 hP hS
theorem c_Wide_copy {l : Launch} {cy : Nat → ClassId} {D : va_G} {ρ : Nat → Nat} {A : Nat → Prop} (hD : gD ρ A) {a0 : Nat} {a1 : Nat} {u : gSt} {z : gSt} (hM : M_Wide_copy a0 a1 u = some z) : gCtV l y_Wide_copy prog_11_method_3_code 2 none 1 60 cy D ρ A [.ref (ρ a0), .ref (ρ a1)] u z :=
  g_met (by decide) hD (Nat.le_of_ble_eq_true rfl) (fun p e s m below meth c ls X hl hP => t_Wide_copy X hM (fun pc ls H locs hd hP hS => g_vret X hP hS hd) ls _ [] hl hP va_S.rf)
end
section
variable {p : Program} {l : Launch} {e : Env} {R : Room} {s : State} {m : MethodId} {args : Array Value} {below : List Frame} {meth : Method} {c : Code} {Q : State → Prop} {H0 : Heap} {cells slots : Nat} {cy : Nat → ClassId} {D : va_G} {ρ : Nat → Nat} {A : Nat → Prop}
def y_Wide_multiply : MethodName := ⟨"TermDesk$Wide", "multiply", "([II)V"⟩
theorem gi_Wide_multiply : gMs y_Wide_multiply prog_11_method_4_code 5 none 2 := ⟨(gWs_at 885 (by decide +kernel) (by decide +kernel)), (gWs_at 884 (by decide +kernel) (by decide +kernel)), (gWs_at 139 (by decide +kernel) (by decide +kernel)), ⟨by decide +kernel, by decide +kernel, by decide +kernel⟩⟩
theorem gm_Wide_24 : gMk "TermDesk$Wide" 24 y_Wide_multiply := Or.inl (gWs_at 883 (by decide +kernel) (by decide +kernel))
theorem gm_Ranking_125 : gMk "TermDesk$Ranking" 125 y_Wide_multiply := Or.inr ⟨"TermDesk", gNs_at 910 (by decide +kernel) (by decide +kernel)⟩
theorem gm_Strip_32 : gMk "TermDesk$Strip" 32 y_Wide_multiply := Or.inr ⟨"TermDesk", gNs_at 978 (by decide +kernel) (by decide +kernel)⟩
theorem d_Wide_multiply_0 : decode prog_11_method_4_code 0 = .ok (.lconst 0, 1) := by decide +kernel
theorem d_Wide_multiply_1 : decode prog_11_method_4_code 1 = .ok (.lstore_n 2, 1) := by decide +kernel
theorem d_Wide_multiply_2 : decode prog_11_method_4_code 2 = .ok (.iconst 0, 1) := by decide +kernel
theorem d_Wide_multiply_3 : decode prog_11_method_4_code 3 = .ok (.istore 4, 2) := by decide +kernel
theorem d_Wide_multiply_5 : decode prog_11_method_4_code 5 = .ok (.iload 4, 2) := by decide +kernel
theorem d_Wide_multiply_7 : decode prog_11_method_4_code 7 = .ok (.bipush 8, 2) := by decide +kernel
theorem d_Wide_multiply_9 : decode prog_11_method_4_code 9 = .ok (.if_icmp .ge 36, 3) := by decide +kernel
theorem d_Wide_multiply_12 : decode prog_11_method_4_code 12 = .ok (.lload_n 2, 1) := by decide +kernel
theorem d_Wide_multiply_13 : decode prog_11_method_4_code 13 = .ok (.aload_n 0, 1) := by decide +kernel
theorem d_Wide_multiply_14 : decode prog_11_method_4_code 14 = .ok (.iload 4, 2) := by decide +kernel
theorem d_Wide_multiply_16 : decode prog_11_method_4_code 16 = .ok (.iaload, 1) := by decide +kernel
theorem d_Wide_multiply_17 : decode prog_11_method_4_code 17 = .ok (.i2l, 1) := by decide +kernel
theorem d_Wide_multiply_18 : decode prog_11_method_4_code 18 = .ok (.iload_n 1, 1) := by decide +kernel
theorem d_Wide_multiply_19 : decode prog_11_method_4_code 19 = .ok (.i2l, 1) := by decide +kernel
theorem d_Wide_multiply_20 : decode prog_11_method_4_code 20 = .ok (.lmul, 1) := by decide +kernel
theorem d_Wide_multiply_21 : decode prog_11_method_4_code 21 = .ok (.ladd, 1) := by decide +kernel
theorem d_Wide_multiply_22 : decode prog_11_method_4_code 22 = .ok (.lstore_n 2, 1) := by decide +kernel
theorem d_Wide_multiply_23 : decode prog_11_method_4_code 23 = .ok (.aload_n 0, 1) := by decide +kernel
theorem d_Wide_multiply_24 : decode prog_11_method_4_code 24 = .ok (.iload 4, 2) := by decide +kernel
theorem d_Wide_multiply_26 : decode prog_11_method_4_code 26 = .ok (.lload_n 2, 1) := by decide +kernel
theorem d_Wide_multiply_27 : decode prog_11_method_4_code 27 = .ok (.ldc2_w 21, 3) := by decide +kernel
theorem d_Wide_multiply_30 : decode prog_11_method_4_code 30 = .ok (.lrem, 1) := by decide +kernel
theorem d_Wide_multiply_31 : decode prog_11_method_4_code 31 = .ok (.l2i, 1) := by decide +kernel
theorem d_Wide_multiply_32 : decode prog_11_method_4_code 32 = .ok (.iastore, 1) := by decide +kernel
theorem d_Wide_multiply_33 : decode prog_11_method_4_code 33 = .ok (.lload_n 2, 1) := by decide +kernel
theorem d_Wide_multiply_34 : decode prog_11_method_4_code 34 = .ok (.ldc2_w 21, 3) := by decide +kernel
theorem d_Wide_multiply_37 : decode prog_11_method_4_code 37 = .ok (.ldiv, 1) := by decide +kernel
theorem d_Wide_multiply_38 : decode prog_11_method_4_code 38 = .ok (.lstore_n 2, 1) := by decide +kernel
theorem d_Wide_multiply_39 : decode prog_11_method_4_code 39 = .ok (.iinc 4 1, 3) := by decide +kernel
theorem d_Wide_multiply_42 : decode prog_11_method_4_code 42 = .ok (.goto (-37), 3) := by decide +kernel
theorem d_Wide_multiply_45 : decode prog_11_method_4_code 45 = .ok (.return_, 1) := by decide +kernel
noncomputable def M_Wide_multiply_b5 (a0 : Nat) (x1 : Int32) (y2 : Int64) (x4 : Int32) (u : gSt) : Option ((Nat × Int32 × Int64 × Int32 × gSt) ⊕ ((gSt))) :=
  if (8 : Int32) ≤ x4 then
    (some (.inr u))
  else
    (gc (gK a0 == 22) <| gc (gIn x4 (gLen a0)) <| gc (gK a0 == 22) <| gc (gIn x4 (gLen a0)) <| (some (gsA u a0 (gIx x4) (((y2 + (((u.2.2.1 a0 (gIx x4)).toInt64) * x1.toInt64)) - (y2 + (((u.2.2.1 a0 (gIx x4)).toInt64) * x1.toInt64)) / (1000000000 : Int64) * (1000000000 : Int64)).toInt32))).bind fun u32 =>
    some (.inl (a0, x1, (y2 + (((u.2.2.1 a0 (gIx x4)).toInt64) * x1.toInt64)) / (1000000000 : Int64), x4 + (1 : Int32), u32)))
set_option maxHeartbeats 4000000 in
set_option maxRecDepth 100000 in
theorem t_Wide_multiply_b5 (C : gX "TermDesk$Wide" prog_11_method_4_code 5 none 0 0 R cells slots cy D ρ A p s m args meth c) {a0 : Nat} {x1 : Int32} {y2 : Int64} {x4 : Int32} {u : gSt} {z : (Nat × Int32 × Int64 × Int32 × gSt) ⊕ ((gSt))} (hM : M_Wide_multiply_b5 a0 x1 y2 x4 u = some z) (hN : ∀ a0' x1' y2' x4' u', z = .inl (a0', x1', y2', x4', u') → gAt p l e R s m args below meth c Q H0 cells slots cy D ρ A 5 5 [(0, .ref (ρ (a0'))), (1, .int (x1')), (2, .long (y2')), (4, .int (x4'))] [] (u')) (hE0 : ∀ u', z = .inr u' → gAt p l e R s m args below meth c Q H0 cells slots cy D ρ A 5 45 [] [] (u')) : gAt p l e R s m args below meth c Q H0 cells slots cy D ρ A 5 5 [(0, .ref (ρ a0)), (1, .int x1), (2, .long y2), (4, .int x4)] [] u := by
  intro ls H locs hl hP hS
  have hx := C.1
  have hb := C.2.1
  unfold M_Wide_multiply_b5 at hM
  refine lv_iload hx hb d_Wide_multiply_5 (lv_at hl 3 rfl) ?_
  refine lv_bipush (v := (8 : Int32)) hx hb d_Wide_multiply_7 (by decide) ?_
  refine lv_icmp_ge (tgt := 45) hx hb d_Wide_multiply_9 (by decide) (fun hc9 => ?_) (fun hc9 => ?_)
  · replace hM := gi_t hc9 hM
    exact hE0 _ (Option.some.inj hM).symm ls H locs (lv_sub hl [] rfl) hP hS
  · replace hM := gi_f hc9 hM
    refine lv_lload_n hx hb d_Wide_multiply_12 rfl (lv_at hl 2 rfl) ?_
    refine lv_aload_n hx hb d_Wide_multiply_13 rfl (lv_at hl 0 rfl) ?_
    refine lv_iload hx hb d_Wide_multiply_14 (lv_at hl 3 rfl) ?_
    obtain ⟨h16, hM⟩ := gc_some hM
    obtain ⟨hi16, hM⟩ := gc_some hM
    refine g_iald C hP (eq_of_beq h16) hi16 d_Wide_multiply_16 ?_
    refine lv_i2l (v := (u.2.2.1 a0 (gIx x4)).toInt64) hx hb d_Wide_multiply_17 rfl ?_
    refine lv_iload_n hx hb d_Wide_multiply_18 rfl (lv_at hl 1 rfl) ?_
    refine lv_i2l (v := x1.toInt64) hx hb d_Wide_multiply_19 rfl ?_
    refine lv_lmul hx hb d_Wide_multiply_20 ?_
    refine lv_ladd hx hb d_Wide_multiply_21 ?_
    refine lv_lstore_n (lv' := [(2, .long (y2 + (((u.2.2.1 a0 (gIx x4)).toInt64) * x1.toInt64))), (0, .ref (ρ a0)), (1, .int x1), (4, .int x4)]) hx hb d_Wide_multiply_22 rfl hl (by decide) rfl (fun ls hl => ?_)
    refine lv_aload_n hx hb d_Wide_multiply_23 rfl (lv_at hl 1 rfl) ?_
    refine lv_iload hx hb d_Wide_multiply_24 (lv_at hl 3 rfl) ?_
    refine lv_lload_n hx hb d_Wide_multiply_26 rfl (lv_at hl 0 rfl) ?_
    refine lv_ldc2 (v := 1000000000) hx hb C.2.2.2.2.1 (C.2.2.2.2.2.1 _ (gWs_at 886 (by decide +kernel) (by decide +kernel))) d_Wide_multiply_27 ?_
    refine lv_lrem hx hb d_Wide_multiply_30 (by decide) ?_
    refine lv_l2i (v := ((y2 + (((u.2.2.1 a0 (gIx x4)).toInt64) * x1.toInt64)) - (y2 + (((u.2.2.1 a0 (gIx x4)).toInt64) * x1.toInt64)) / (1000000000 : Int64) * (1000000000 : Int64)).toInt32) hx hb d_Wide_multiply_31 rfl ?_
    obtain ⟨h32, hM⟩ := gc_some hM
    obtain ⟨hi32, hM⟩ := gc_some hM
    obtain ⟨u32, e32, hM⟩ := gb_some hM
    refine g_iast C hP hS (eq_of_beq h32) hi32 d_Wide_multiply_32 (fun H locs hP hS => ?_)
    rw [Option.some.inj e32] at hP
    refine lv_lload_n hx hb d_Wide_multiply_33 rfl (lv_at hl 0 rfl) ?_
    refine lv_ldc2 (v := 1000000000) hx hb C.2.2.2.2.1 (C.2.2.2.2.2.1 _ (gWs_at 886 (by decide +kernel) (by decide +kernel))) d_Wide_multiply_34 ?_
    refine lv_ldiv hx hb d_Wide_multiply_37 (by decide) ?_
    refine lv_lstore_n (lv' := [(2, .long ((y2 + (((u.2.2.1 a0 (gIx x4)).toInt64) * x1.toInt64)) / (1000000000 : Int64))), (0, .ref (ρ a0)), (1, .int x1), (4, .int x4)]) hx hb d_Wide_multiply_38 rfl hl (by decide) rfl (fun ls hl => ?_)
    refine lv_iinc (k := 3) (v := x4 + (1 : Int32)) (lv' := [(4, .int (x4 + (1 : Int32))), (2, .long ((y2 + (((u.2.2.1 a0 (gIx x4)).toInt64) * x1.toInt64)) / (1000000000 : Int64))), (0, .ref (ρ a0)), (1, .int x1)]) hx hb d_Wide_multiply_39 hl rfl (congrArg (fun z => x4 + z) (by decide)) (by decide) rfl (fun ls hl => ?_)
    refine lv_goto (tgt := 5) hx hb d_Wide_multiply_42 (by decide) ?_
    exact hN _ _ _ _ _ (Option.some.inj hM).symm ls H locs (lv_sub hl [2, 3, 1, 0] rfl) hP hS
noncomputable def M_Wide_multiply_L5 : (Nat × Int32 × Int64 × Int32 × gSt) → Option ((Nat × Int32 × Int64 × Int32 × gSt) ⊕ ((gSt))) := fun x => M_Wide_multiply_b5 x.1 x.2.1 x.2.2.1 x.2.2.2.1 x.2.2.2.2
theorem t_Wide_multiply_L5 (C : gX "TermDesk$Wide" prog_11_method_4_code 5 none 0 0 R cells slots cy D ρ A p s m args meth c) {a0 : Nat} {x1 : Int32} {y2 : Int64} {x4 : Int32} {u : gSt} {yy : (gSt)} (hL : gLp M_Wide_multiply_L5 (a0, x1, y2, x4, u) = some yy) (hE0 : (∀ y', yy = y' → gAt p l e R s m args below meth c Q H0 cells slots cy D ρ A 5 45 [] [] (y'))) : gAt p l e R s m args below meth c Q H0 cells slots cy D ρ A 5 5 [(0, .ref (ρ a0)), (1, .int x1), (2, .long y2), (4, .int x4)] [] u :=
  g_loop (f := M_Wide_multiply_L5) (P := fun x => gAt p l e R s m args below meth c Q H0 cells slots cy D ρ A 5 5 [(0, .ref (ρ x.1)), (1, .int x.2.1), (2, .long x.2.2.1), (4, .int x.2.2.2.1)] [] x.2.2.2.2) (E := fun yy => (∀ y', yy = y' → gAt p l e R s m args below meth c Q H0 cells slots cy D ρ A 5 45 [] [] (y'))) (fun x z hf hN hE => t_Wide_multiply_b5 C hf (fun a0' x1' y2' x4' u' h => hN (a0', x1', y2', x4', u') h) (fun u' h => (hE _ h) u' rfl)) hL hE0
noncomputable def M_Wide_multiply (a0 : Nat) (x1 : Int32) (u : gSt) : Option (gSt) :=
  (gLp M_Wide_multiply_L5 (a0, x1, (0 : Int64), (0 : Int32), u)).bind fun y5 =>
  some y5
set_option maxHeartbeats 4000000 in
set_option maxRecDepth 100000 in
theorem t_Wide_multiply (C : gX "TermDesk$Wide" prog_11_method_4_code 5 none 0 0 R cells slots cy D ρ A p s m args meth c) {a0 : Nat} {x1 : Int32} {u : gSt} {z : gSt} (hM : M_Wide_multiply a0 x1 u = some z) (hR : gRtV p l e R s m args below meth c Q H0 cells slots cy D ρ A prog_11_method_4_code z) : gAt p l e R s m args below meth c Q H0 cells slots cy D ρ A 5 0 [(0, .ref (ρ a0)), (1, .int x1)] [] u := by
  intro ls H locs hl hP hS
  have hx := C.1
  have hb := C.2.1
  unfold M_Wide_multiply at hM
  refine lv_lconst (v := 0) hx hb d_Wide_multiply_0 (by decide) ?_
  refine lv_lstore_n (lv' := [(2, .long (0 : Int64)), (0, .ref (ρ a0)), (1, .int x1)]) hx hb d_Wide_multiply_1 rfl hl (by decide) rfl (fun ls hl => ?_)
  refine lv_iconst (v := (0 : Int32)) hx hb d_Wide_multiply_2 (by decide) ?_
  refine lv_istore (lv' := [(4, .int (0 : Int32)), (2, .long (0 : Int64)), (0, .ref (ρ a0)), (1, .int x1)]) hx hb d_Wide_multiply_3 hl (by decide) rfl (fun ls hl => ?_)
  obtain ⟨y5, hL5, hM⟩ := gb_some hM
  refine t_Wide_multiply_L5 C hL5 (fun y5_0 hy => ?_) ls H locs (lv_sub hl [2, 3, 1, 0] rfl) hP hS
  · subst hy
    intro ls H locs hl hP hS
    obtain rfl := Option.some.inj hM
    exact hR _ ls H locs d_Wide_multiply_45 hP hS
theorem c_Wide_multiply {l : Launch} {cy : Nat → ClassId} {D : va_G} {ρ : Nat → Nat} {A : Nat → Prop} (hD : gD ρ A) {a0 : Nat} {x1 : Int32} {u : gSt} {z : gSt} (hM : M_Wide_multiply a0 x1 u = some z) : gCtV l y_Wide_multiply prog_11_method_4_code 5 none 0 0 cy D ρ A [.ref (ρ a0), .int x1] u z :=
  g_met (by decide) hD (Nat.le_of_ble_eq_true rfl) (fun p e s m below meth c ls X hl hP => t_Wide_multiply X hM (fun pc ls H locs hd hP hS => g_vret X hP hS hd) ls _ [] hl hP va_S.rf)
end
section
variable {p : Program} {l : Launch} {e : Env} {R : Room} {s : State} {m : MethodId} {args : Array Value} {below : List Frame} {meth : Method} {c : Code} {Q : State → Prop} {H0 : Heap} {cells slots : Nat} {cy : Nat → ClassId} {D : va_G} {ρ : Nat → Nat} {A : Nat → Prop}
def y_Wide_compare : MethodName := ⟨"TermDesk$Wide", "compare", "([I[I)I"⟩
theorem gi_Wide_compare : gMs y_Wide_compare prog_11_method_9_code 3 (some .int) 2 := ⟨(gWs_at 925 (by decide +kernel) (by decide +kernel)), (gWs_at 924 (by decide +kernel) (by decide +kernel)), (gWs_at 139 (by decide +kernel) (by decide +kernel)), ⟨by decide +kernel, by decide +kernel, by decide +kernel⟩⟩
theorem gm_Ranking_134 : gMk "TermDesk$Ranking" 134 y_Wide_compare := Or.inr ⟨"TermDesk", gNs_at 923 (by decide +kernel) (by decide +kernel)⟩
theorem gm_Strip_39 : gMk "TermDesk$Strip" 39 y_Wide_compare := Or.inr ⟨"TermDesk", gNs_at 995 (by decide +kernel) (by decide +kernel)⟩
theorem d_Wide_compare_0 : decode prog_11_method_9_code 0 = .ok (.bipush 7, 2) := by decide +kernel
theorem d_Wide_compare_2 : decode prog_11_method_9_code 2 = .ok (.istore_n 2, 1) := by decide +kernel
theorem d_Wide_compare_3 : decode prog_11_method_9_code 3 = .ok (.iload_n 2, 1) := by decide +kernel
theorem d_Wide_compare_4 : decode prog_11_method_9_code 4 = .ok (.ifCond .lt 33, 3) := by decide +kernel
theorem d_Wide_compare_7 : decode prog_11_method_9_code 7 = .ok (.aload_n 0, 1) := by decide +kernel
theorem d_Wide_compare_8 : decode prog_11_method_9_code 8 = .ok (.iload_n 2, 1) := by decide +kernel
theorem d_Wide_compare_9 : decode prog_11_method_9_code 9 = .ok (.iaload, 1) := by decide +kernel
theorem d_Wide_compare_10 : decode prog_11_method_9_code 10 = .ok (.aload_n 1, 1) := by decide +kernel
theorem d_Wide_compare_11 : decode prog_11_method_9_code 11 = .ok (.iload_n 2, 1) := by decide +kernel
theorem d_Wide_compare_12 : decode prog_11_method_9_code 12 = .ok (.iaload, 1) := by decide +kernel
theorem d_Wide_compare_13 : decode prog_11_method_9_code 13 = .ok (.if_icmp .eq 18, 3) := by decide +kernel
theorem d_Wide_compare_16 : decode prog_11_method_9_code 16 = .ok (.aload_n 0, 1) := by decide +kernel
theorem d_Wide_compare_17 : decode prog_11_method_9_code 17 = .ok (.iload_n 2, 1) := by decide +kernel
theorem d_Wide_compare_18 : decode prog_11_method_9_code 18 = .ok (.iaload, 1) := by decide +kernel
theorem d_Wide_compare_19 : decode prog_11_method_9_code 19 = .ok (.aload_n 1, 1) := by decide +kernel
theorem d_Wide_compare_20 : decode prog_11_method_9_code 20 = .ok (.iload_n 2, 1) := by decide +kernel
theorem d_Wide_compare_21 : decode prog_11_method_9_code 21 = .ok (.iaload, 1) := by decide +kernel
theorem d_Wide_compare_22 : decode prog_11_method_9_code 22 = .ok (.if_icmp .ge 7, 3) := by decide +kernel
theorem d_Wide_compare_25 : decode prog_11_method_9_code 25 = .ok (.iconst (-1), 1) := by decide +kernel
theorem d_Wide_compare_26 : decode prog_11_method_9_code 26 = .ok (.goto 4, 3) := by decide +kernel
theorem d_Wide_compare_29 : decode prog_11_method_9_code 29 = .ok (.iconst 1, 1) := by decide +kernel
theorem d_Wide_compare_30 : decode prog_11_method_9_code 30 = .ok (.ireturn, 1) := by decide +kernel
theorem d_Wide_compare_31 : decode prog_11_method_9_code 31 = .ok (.iinc 2 (-1), 3) := by decide +kernel
theorem d_Wide_compare_34 : decode prog_11_method_9_code 34 = .ok (.goto (-31), 3) := by decide +kernel
theorem d_Wide_compare_37 : decode prog_11_method_9_code 37 = .ok (.iconst 0, 1) := by decide +kernel
theorem d_Wide_compare_38 : decode prog_11_method_9_code 38 = .ok (.ireturn, 1) := by decide +kernel
noncomputable def M_Wide_compare_b3 (a0 : Nat) (a1 : Nat) (x2 : Int32) (u : gSt) : Option ((Nat × Nat × Int32 × gSt) ⊕ ((gSt) ⊕ (Nat × Nat × Int32 × gSt))) :=
  if x2 < (0 : Int32) then
    (some (.inr (.inl u)))
  else
    (gc (gK a0 == 22) <| gc (gIn x2 (gLen a0)) <| gc (gK a1 == 22) <| gc (gIn x2 (gLen a1)) <| if (u.2.2.1 a0 (gIx x2)) = (u.2.2.1 a1 (gIx x2)) then
      (some (.inl (a0, a1, x2 + (-1 : Int32), u)))
    else
      (some (.inr (.inr (a0, a1, x2, u)))))
set_option maxHeartbeats 4000000 in
set_option maxRecDepth 100000 in
theorem t_Wide_compare_b3 (C : gX "TermDesk$Wide" prog_11_method_9_code 3 (some .int) 0 0 R cells slots cy D ρ A p s m args meth c) {a0 : Nat} {a1 : Nat} {x2 : Int32} {u : gSt} {z : (Nat × Nat × Int32 × gSt) ⊕ ((gSt) ⊕ (Nat × Nat × Int32 × gSt))} (hM : M_Wide_compare_b3 a0 a1 x2 u = some z) (hN : ∀ a0' a1' x2' u', z = .inl (a0', a1', x2', u') → gAt p l e R s m args below meth c Q H0 cells slots cy D ρ A 3 3 [(0, .ref (ρ (a0'))), (1, .ref (ρ (a1'))), (2, .int (x2'))] [] (u')) (hE0 : ∀ u', z = .inr (.inl u') → gAt p l e R s m args below meth c Q H0 cells slots cy D ρ A 3 37 [] [] (u')) (hE1 : ∀ a0' a1' x2' u', z = .inr (.inr (a0', a1', x2', u')) → gAt p l e R s m args below meth c Q H0 cells slots cy D ρ A 3 16 [(0, .ref (ρ (a0'))), (1, .ref (ρ (a1'))), (2, .int (x2'))] [] (u')) : gAt p l e R s m args below meth c Q H0 cells slots cy D ρ A 3 3 [(0, .ref (ρ a0)), (1, .ref (ρ a1)), (2, .int x2)] [] u := by
  intro ls H locs hl hP hS
  have hx := C.1
  have hb := C.2.1
  unfold M_Wide_compare_b3 at hM
  refine lv_iload_n hx hb d_Wide_compare_3 rfl (lv_at hl 2 rfl) ?_
  refine lv_if_lt (tgt := 37) hx hb d_Wide_compare_4 (by decide) (fun hc4 => ?_) (fun hc4 => ?_)
  · replace hM := gi_t hc4 hM
    exact hE0 _ (Option.some.inj hM).symm ls H locs (lv_sub hl [] rfl) hP hS
  · replace hM := gi_f hc4 hM
    refine lv_aload_n hx hb d_Wide_compare_7 rfl (lv_at hl 0 rfl) ?_
    refine lv_iload_n hx hb d_Wide_compare_8 rfl (lv_at hl 2 rfl) ?_
    obtain ⟨h9, hM⟩ := gc_some hM
    obtain ⟨hi9, hM⟩ := gc_some hM
    refine g_iald C hP (eq_of_beq h9) hi9 d_Wide_compare_9 ?_
    refine lv_aload_n hx hb d_Wide_compare_10 rfl (lv_at hl 1 rfl) ?_
    refine lv_iload_n hx hb d_Wide_compare_11 rfl (lv_at hl 2 rfl) ?_
    obtain ⟨h12, hM⟩ := gc_some hM
    obtain ⟨hi12, hM⟩ := gc_some hM
    refine g_iald C hP (eq_of_beq h12) hi12 d_Wide_compare_12 ?_
    refine lv_icmp_eq (tgt := 31) hx hb d_Wide_compare_13 (by decide) (fun hc13 => ?_) (fun hc13 => ?_)
    · replace hM := gi_t hc13 hM
      refine lv_iinc (k := 2) (v := x2 + (-1 : Int32)) (lv' := [(2, .int (x2 + (-1 : Int32))), (0, .ref (ρ a0)), (1, .ref (ρ a1))]) hx hb d_Wide_compare_31 hl rfl (congrArg (fun z => x2 + z) (by decide)) (by decide) rfl (fun ls hl => ?_)
      refine lv_goto (tgt := 3) hx hb d_Wide_compare_34 (by decide) ?_
      exact hN _ _ _ _ (Option.some.inj hM).symm ls H locs (lv_sub hl [1, 2, 0] rfl) hP hS
    · replace hM := gi_f hc13 hM
      exact hE1 _ _ _ _ (Option.some.inj hM).symm ls H locs (lv_sub hl [0, 1, 2] rfl) hP hS
noncomputable def M_Wide_compare_L3 : (Nat × Nat × Int32 × gSt) → Option ((Nat × Nat × Int32 × gSt) ⊕ ((gSt) ⊕ (Nat × Nat × Int32 × gSt))) := fun x => M_Wide_compare_b3 x.1 x.2.1 x.2.2.1 x.2.2.2
theorem t_Wide_compare_L3 (C : gX "TermDesk$Wide" prog_11_method_9_code 3 (some .int) 0 0 R cells slots cy D ρ A p s m args meth c) {a0 : Nat} {a1 : Nat} {x2 : Int32} {u : gSt} {yy : (gSt) ⊕ (Nat × Nat × Int32 × gSt)} (hL : gLp M_Wide_compare_L3 (a0, a1, x2, u) = some yy) (hE0 : (∀ y', yy = (.inl y') → gAt p l e R s m args below meth c Q H0 cells slots cy D ρ A 3 37 [] [] (y'))) (hE1 : (∀ y', yy = (.inr y') → gAt p l e R s m args below meth c Q H0 cells slots cy D ρ A 3 16 [(0, .ref (ρ (y'.1))), (1, .ref (ρ (y'.2.1))), (2, .int (y'.2.2.1))] [] (y'.2.2.2))) : gAt p l e R s m args below meth c Q H0 cells slots cy D ρ A 3 3 [(0, .ref (ρ a0)), (1, .ref (ρ a1)), (2, .int x2)] [] u :=
  g_loop (f := M_Wide_compare_L3) (P := fun x => gAt p l e R s m args below meth c Q H0 cells slots cy D ρ A 3 3 [(0, .ref (ρ x.1)), (1, .ref (ρ x.2.1)), (2, .int x.2.2.1)] [] x.2.2.2) (E := fun yy => (∀ y', yy = (.inl y') → gAt p l e R s m args below meth c Q H0 cells slots cy D ρ A 3 37 [] [] (y')) ∧ (∀ y', yy = (.inr y') → gAt p l e R s m args below meth c Q H0 cells slots cy D ρ A 3 16 [(0, .ref (ρ (y'.1))), (1, .ref (ρ (y'.2.1))), (2, .int (y'.2.2.1))] [] (y'.2.2.2))) (fun x z hf hN hE => t_Wide_compare_b3 C hf (fun a0' a1' x2' u' h => hN (a0', a1', x2', u') h) (fun u' h => (hE _ h).1 u' rfl) (fun a0' a1' x2' u' h => (hE _ h).2 (a0', a1', x2', u') rfl)) hL ⟨hE0, hE1⟩
noncomputable def M_Wide_compare_b30 (s0 : Int32) (u : gSt) : Option ((Int32 × gSt)) :=
  some (s0, u)
set_option maxHeartbeats 4000000 in
set_option maxRecDepth 100000 in
theorem t_Wide_compare_b30 (C : gX "TermDesk$Wide" prog_11_method_9_code 3 (some .int) 0 0 R cells slots cy D ρ A p s m args meth c) {s0 : Int32} {u : gSt} {z : (Int32 × gSt)} (hM : M_Wide_compare_b30 s0 u = some z) (hR : gRtI p l e R s m args below meth c Q H0 cells slots cy D ρ A prog_11_method_9_code z.1 z.2) : gAt p l e R s m args below meth c Q H0 cells slots cy D ρ A 3 30 [] [.int s0] u := by
  intro ls H locs hl hP hS
  have hx := C.1
  have hb := C.2.1
  unfold M_Wide_compare_b30 at hM
  obtain rfl := Option.some.inj hM
  exact hR _ ls H locs d_Wide_compare_30 hP hS
noncomputable def M_Wide_compare (a0 : Nat) (a1 : Nat) (u : gSt) : Option ((Int32 × gSt)) :=
  (gLp M_Wide_compare_L3 (a0, a1, (7 : Int32), u)).bind fun y3 =>
  (Sum.elim (fun y3_0 => some ((0 : Int32), y3_0)) (fun y3_1 => gc (gK y3_1.1 == 22) <| gc (gIn y3_1.2.2.1 (gLen y3_1.1)) <| gc (gK y3_1.2.1 == 22) <| gc (gIn y3_1.2.2.1 (gLen y3_1.2.1)) <| if (y3_1.2.2.2.2.2.1 y3_1.2.1 (gIx y3_1.2.2.1)) ≤ (y3_1.2.2.2.2.2.1 y3_1.1 (gIx y3_1.2.2.1)) then
    (M_Wide_compare_b30 (1 : Int32) y3_1.2.2.2)
  else
    (M_Wide_compare_b30 (-1 : Int32) y3_1.2.2.2))) y3
set_option maxHeartbeats 4000000 in
set_option maxRecDepth 100000 in
theorem t_Wide_compare (C : gX "TermDesk$Wide" prog_11_method_9_code 3 (some .int) 0 0 R cells slots cy D ρ A p s m args meth c) {a0 : Nat} {a1 : Nat} {u : gSt} {z : (Int32 × gSt)} (hM : M_Wide_compare a0 a1 u = some z) (hR : gRtI p l e R s m args below meth c Q H0 cells slots cy D ρ A prog_11_method_9_code z.1 z.2) : gAt p l e R s m args below meth c Q H0 cells slots cy D ρ A 3 0 [(0, .ref (ρ a0)), (1, .ref (ρ a1))] [] u := by
  intro ls H locs hl hP hS
  have hx := C.1
  have hb := C.2.1
  unfold M_Wide_compare at hM
  refine lv_bipush (v := (7 : Int32)) hx hb d_Wide_compare_0 (by decide) ?_
  refine lv_istore_n (lv' := [(2, .int (7 : Int32)), (0, .ref (ρ a0)), (1, .ref (ρ a1))]) hx hb d_Wide_compare_2 rfl hl (by decide) rfl (fun ls hl => ?_)
  obtain ⟨y3, hL3, hM⟩ := gb_some hM
  refine t_Wide_compare_L3 C hL3 (fun y3_0 hy => ?_) (fun y3_1 hy => ?_) ls H locs (lv_sub hl [1, 2, 0] rfl) hP hS
  · subst hy
    replace hM := gs_l hM
    intro ls H locs hl hP hS
    refine lv_iconst (v := (0 : Int32)) hx hb d_Wide_compare_37 (by decide) ?_
    obtain rfl := Option.some.inj hM
    exact hR _ ls H locs d_Wide_compare_38 hP hS
  · subst hy
    replace hM := gs_r hM
    intro ls H locs hl hP hS
    refine lv_aload_n hx hb d_Wide_compare_16 rfl (lv_at hl 0 rfl) ?_
    refine lv_iload_n hx hb d_Wide_compare_17 rfl (lv_at hl 2 rfl) ?_
    obtain ⟨h18, hM⟩ := gc_some hM
    obtain ⟨hi18, hM⟩ := gc_some hM
    refine g_iald C hP (eq_of_beq h18) hi18 d_Wide_compare_18 ?_
    refine lv_aload_n hx hb d_Wide_compare_19 rfl (lv_at hl 1 rfl) ?_
    refine lv_iload_n hx hb d_Wide_compare_20 rfl (lv_at hl 2 rfl) ?_
    obtain ⟨h21, hM⟩ := gc_some hM
    obtain ⟨hi21, hM⟩ := gc_some hM
    refine g_iald C hP (eq_of_beq h21) hi21 d_Wide_compare_21 ?_
    refine lv_icmp_ge (tgt := 29) hx hb d_Wide_compare_22 (by decide) (fun hc22 => ?_) (fun hc22 => ?_)
    · replace hM := gi_t hc22 hM
      refine lv_iconst (v := (1 : Int32)) hx hb d_Wide_compare_29 (by decide) ?_
      exact t_Wide_compare_b30 C hM hR ls H locs (lv_sub hl [] rfl) hP hS
    · replace hM := gi_f hc22 hM
      refine lv_iconst (v := (-1 : Int32)) hx hb d_Wide_compare_25 (by decide) ?_
      refine lv_goto (tgt := 30) hx hb d_Wide_compare_26 (by decide) ?_
      exact t_Wide_compare_b30 C hM hR ls H locs (lv_sub hl [] rfl) hP hS
theorem c_Wide_compare {l : Launch} {cy : Nat → ClassId} {D : va_G} {ρ : Nat → Nat} {A : Nat → Prop} (hD : gD ρ A) {a0 : Nat} {a1 : Nat} {u : gSt} {z : (Int32 × gSt)} (hM : M_Wide_compare a0 a1 u = some z) : gCtI l y_Wide_compare prog_11_method_9_code 3 (some .int) 0 0 cy D ρ A [.ref (ρ a0), .ref (ρ a1)] u z.1 z.2 :=
  g_met (by decide) hD (Nat.le_of_ble_eq_true rfl) (fun p e s m below meth c ls X hl hP => t_Wide_compare X hM (fun pc ls H locs hd hP hS => g_iret X hP hS hd) ls _ [] hl hP va_S.rf)
end
section
variable {p : Program} {l : Launch} {e : Env} {R : Room} {s : State} {m : MethodId} {args : Array Value} {below : List Frame} {meth : Method} {c : Code} {Q : State → Prop} {H0 : Heap} {cells slots : Nat} {cy : Nat → ClassId} {D : va_G} {ρ : Nat → Nat} {A : Nat → Prop}
def y_Arrays_fillI : MethodName := ⟨"java/util/Arrays", "fill", "([II)V"⟩
theorem gi_Arrays_fillI : gMs y_Arrays_fillI prog_27_method_103_code 4 none 2 := ⟨(gWs_at 879 (by decide +kernel) (by decide +kernel)), (gWs_at 878 (by decide +kernel) (by decide +kernel)), (gWs_at 138 (by decide +kernel) (by decide +kernel)), ⟨by decide +kernel, by decide +kernel, by decide +kernel⟩⟩
theorem gm_Wide_7 : gMk "TermDesk$Wide" 7 y_Arrays_fillI := Or.inl (gWs_at 877 (by decide +kernel) (by decide +kernel))
theorem d_Arrays_fillI_0 : decode prog_27_method_103_code 0 = .ok (.iconst 0, 1) := by decide +kernel
theorem d_Arrays_fillI_1 : decode prog_27_method_103_code 1 = .ok (.istore_n 2, 1) := by decide +kernel
theorem d_Arrays_fillI_2 : decode prog_27_method_103_code 2 = .ok (.aload_n 0, 1) := by decide +kernel
theorem d_Arrays_fillI_3 : decode prog_27_method_103_code 3 = .ok (.arraylength, 1) := by decide +kernel
theorem d_Arrays_fillI_4 : decode prog_27_method_103_code 4 = .ok (.istore_n 3, 1) := by decide +kernel
theorem d_Arrays_fillI_5 : decode prog_27_method_103_code 5 = .ok (.iload_n 2, 1) := by decide +kernel
theorem d_Arrays_fillI_6 : decode prog_27_method_103_code 6 = .ok (.iload_n 3, 1) := by decide +kernel
theorem d_Arrays_fillI_7 : decode prog_27_method_103_code 7 = .ok (.if_icmp .ge 13, 3) := by decide +kernel
theorem d_Arrays_fillI_10 : decode prog_27_method_103_code 10 = .ok (.aload_n 0, 1) := by decide +kernel
theorem d_Arrays_fillI_11 : decode prog_27_method_103_code 11 = .ok (.iload_n 2, 1) := by decide +kernel
theorem d_Arrays_fillI_12 : decode prog_27_method_103_code 12 = .ok (.iload_n 1, 1) := by decide +kernel
theorem d_Arrays_fillI_13 : decode prog_27_method_103_code 13 = .ok (.iastore, 1) := by decide +kernel
theorem d_Arrays_fillI_14 : decode prog_27_method_103_code 14 = .ok (.iinc 2 1, 3) := by decide +kernel
theorem d_Arrays_fillI_17 : decode prog_27_method_103_code 17 = .ok (.goto (-12), 3) := by decide +kernel
theorem d_Arrays_fillI_20 : decode prog_27_method_103_code 20 = .ok (.return_, 1) := by decide +kernel
noncomputable def M_Arrays_fillI_b5 (a0 : Nat) (x1 : Int32) (x2 : Int32) (x3 : Int32) (u : gSt) : Option ((Nat × Int32 × Int32 × Int32 × gSt) ⊕ ((gSt))) :=
  if x3 ≤ x2 then
    (some (.inr u))
  else
    (gc (gK a0 == 22) <| gc (gIn x2 (gLen a0)) <| (some (gsA u a0 (gIx x2) x1)).bind fun u13 =>
    some (.inl (a0, x1, x2 + (1 : Int32), x3, u13)))
set_option maxHeartbeats 4000000 in
set_option maxRecDepth 100000 in
theorem t_Arrays_fillI_b5 (C : gX "java/util/Arrays" prog_27_method_103_code 4 none 0 0 R cells slots cy D ρ A p s m args meth c) {a0 : Nat} {x1 : Int32} {x2 : Int32} {x3 : Int32} {u : gSt} {z : (Nat × Int32 × Int32 × Int32 × gSt) ⊕ ((gSt))} (hM : M_Arrays_fillI_b5 a0 x1 x2 x3 u = some z) (hN : ∀ a0' x1' x2' x3' u', z = .inl (a0', x1', x2', x3', u') → gAt p l e R s m args below meth c Q H0 cells slots cy D ρ A 4 5 [(0, .ref (ρ (a0'))), (1, .int (x1')), (2, .int (x2')), (3, .int (x3'))] [] (u')) (hE0 : ∀ u', z = .inr u' → gAt p l e R s m args below meth c Q H0 cells slots cy D ρ A 4 20 [] [] (u')) : gAt p l e R s m args below meth c Q H0 cells slots cy D ρ A 4 5 [(0, .ref (ρ a0)), (1, .int x1), (2, .int x2), (3, .int x3)] [] u := by
  intro ls H locs hl hP hS
  have hx := C.1
  have hb := C.2.1
  unfold M_Arrays_fillI_b5 at hM
  refine lv_iload_n hx hb d_Arrays_fillI_5 rfl (lv_at hl 2 rfl) ?_
  refine lv_iload_n hx hb d_Arrays_fillI_6 rfl (lv_at hl 3 rfl) ?_
  refine lv_icmp_ge (tgt := 20) hx hb d_Arrays_fillI_7 (by decide) (fun hc7 => ?_) (fun hc7 => ?_)
  · replace hM := gi_t hc7 hM
    exact hE0 _ (Option.some.inj hM).symm ls H locs (lv_sub hl [] rfl) hP hS
  · replace hM := gi_f hc7 hM
    refine lv_aload_n hx hb d_Arrays_fillI_10 rfl (lv_at hl 0 rfl) ?_
    refine lv_iload_n hx hb d_Arrays_fillI_11 rfl (lv_at hl 2 rfl) ?_
    refine lv_iload_n hx hb d_Arrays_fillI_12 rfl (lv_at hl 1 rfl) ?_
    obtain ⟨h13, hM⟩ := gc_some hM
    obtain ⟨hi13, hM⟩ := gc_some hM
    obtain ⟨u13, e13, hM⟩ := gb_some hM
    refine g_iast C hP hS (eq_of_beq h13) hi13 d_Arrays_fillI_13 (fun H locs hP hS => ?_)
    rw [Option.some.inj e13] at hP
    refine lv_iinc (k := 2) (v := x2 + (1 : Int32)) (lv' := [(2, .int (x2 + (1 : Int32))), (0, .ref (ρ a0)), (1, .int x1), (3, .int x3)]) hx hb d_Arrays_fillI_14 hl rfl (congrArg (fun z => x2 + z) (by decide)) (by decide) rfl (fun ls hl => ?_)
    refine lv_goto (tgt := 5) hx hb d_Arrays_fillI_17 (by decide) ?_
    exact hN _ _ _ _ _ (Option.some.inj hM).symm ls H locs (lv_sub hl [1, 2, 0, 3] rfl) hP hS
noncomputable def M_Arrays_fillI_L5 : (Nat × Int32 × Int32 × Int32 × gSt) → Option ((Nat × Int32 × Int32 × Int32 × gSt) ⊕ ((gSt))) := fun x => M_Arrays_fillI_b5 x.1 x.2.1 x.2.2.1 x.2.2.2.1 x.2.2.2.2
theorem t_Arrays_fillI_L5 (C : gX "java/util/Arrays" prog_27_method_103_code 4 none 0 0 R cells slots cy D ρ A p s m args meth c) {a0 : Nat} {x1 : Int32} {x2 : Int32} {x3 : Int32} {u : gSt} {yy : (gSt)} (hL : gLp M_Arrays_fillI_L5 (a0, x1, x2, x3, u) = some yy) (hE0 : (∀ y', yy = y' → gAt p l e R s m args below meth c Q H0 cells slots cy D ρ A 4 20 [] [] (y'))) : gAt p l e R s m args below meth c Q H0 cells slots cy D ρ A 4 5 [(0, .ref (ρ a0)), (1, .int x1), (2, .int x2), (3, .int x3)] [] u :=
  g_loop (f := M_Arrays_fillI_L5) (P := fun x => gAt p l e R s m args below meth c Q H0 cells slots cy D ρ A 4 5 [(0, .ref (ρ x.1)), (1, .int x.2.1), (2, .int x.2.2.1), (3, .int x.2.2.2.1)] [] x.2.2.2.2) (E := fun yy => (∀ y', yy = y' → gAt p l e R s m args below meth c Q H0 cells slots cy D ρ A 4 20 [] [] (y'))) (fun x z hf hN hE => t_Arrays_fillI_b5 C hf (fun a0' x1' x2' x3' u' h => hN (a0', x1', x2', x3', u') h) (fun u' h => (hE _ h) u' rfl)) hL hE0
noncomputable def M_Arrays_fillI (a0 : Nat) (x1 : Int32) (u : gSt) : Option (gSt) :=
  gc (gK a0 == 22) <| (gLp M_Arrays_fillI_L5 (a0, x1, (0 : Int32), Int32.ofNat (gLen a0), u)).bind fun y5 =>
  some y5
set_option maxHeartbeats 4000000 in
set_option maxRecDepth 100000 in
theorem t_Arrays_fillI (C : gX "java/util/Arrays" prog_27_method_103_code 4 none 0 0 R cells slots cy D ρ A p s m args meth c) {a0 : Nat} {x1 : Int32} {u : gSt} {z : gSt} (hM : M_Arrays_fillI a0 x1 u = some z) (hR : gRtV p l e R s m args below meth c Q H0 cells slots cy D ρ A prog_27_method_103_code z) : gAt p l e R s m args below meth c Q H0 cells slots cy D ρ A 4 0 [(0, .ref (ρ a0)), (1, .int x1)] [] u := by
  intro ls H locs hl hP hS
  have hx := C.1
  have hb := C.2.1
  unfold M_Arrays_fillI at hM
  refine lv_iconst (v := (0 : Int32)) hx hb d_Arrays_fillI_0 (by decide) ?_
  refine lv_istore_n (lv' := [(2, .int (0 : Int32)), (0, .ref (ρ a0)), (1, .int x1)]) hx hb d_Arrays_fillI_1 rfl hl (by decide) rfl (fun ls hl => ?_)
  refine lv_aload_n hx hb d_Arrays_fillI_2 rfl (lv_at hl 1 rfl) ?_
  obtain ⟨h3, hM⟩ := gc_some hM
  refine g_alen (v := Int32.ofNat (gLen a0)) C hP (eq_of_beq h3) rfl d_Arrays_fillI_3 ?_
  refine lv_istore_n (lv' := [(3, .int (Int32.ofNat (gLen a0))), (2, .int (0 : Int32)), (0, .ref (ρ a0)), (1, .int x1)]) hx hb d_Arrays_fillI_4 rfl hl (by decide) rfl (fun ls hl => ?_)
  obtain ⟨y5, hL5, hM⟩ := gb_some hM
  refine t_Arrays_fillI_L5 C hL5 (fun y5_0 hy => ?_) ls H locs (lv_sub hl [2, 3, 1, 0] rfl) hP hS
  · subst hy
    intro ls H locs hl hP hS
    obtain rfl := Option.some.inj hM
    exact hR _ ls H locs d_Arrays_fillI_20 hP hS
theorem c_Arrays_fillI {l : Launch} {cy : Nat → ClassId} {D : va_G} {ρ : Nat → Nat} {A : Nat → Prop} (hD : gD ρ A) {a0 : Nat} {x1 : Int32} {u : gSt} {z : gSt} (hM : M_Arrays_fillI a0 x1 u = some z) : gCtV l y_Arrays_fillI prog_27_method_103_code 4 none 0 0 cy D ρ A [.ref (ρ a0), .int x1] u z :=
  g_met (by decide) hD (Nat.le_of_ble_eq_true rfl) (fun p e s m below meth c ls X hl hP => t_Arrays_fillI X hM (fun pc ls H locs hd hP hS => g_vret X hP hS hd) ls _ [] hl hP va_S.rf)
end
section
variable {p : Program} {l : Launch} {e : Env} {R : Room} {s : State} {m : MethodId} {args : Array Value} {below : List Frame} {meth : Method} {c : Code} {Q : State → Prop} {H0 : Heap} {cells slots : Nat} {cy : Nat → ClassId} {D : va_G} {ρ : Nat → Nat} {A : Nat → Prop}
def y_Wide_set : MethodName := ⟨"TermDesk$Wide", "set", "([II)V"⟩
theorem gi_Wide_set : gMs y_Wide_set prog_11_method_2_code 2 none 2 := ⟨(gWs_at 876 (by decide +kernel) (by decide +kernel)), (gWs_at 875 (by decide +kernel) (by decide +kernel)), (gWs_at 139 (by decide +kernel) (by decide +kernel)), ⟨by decide +kernel, by decide +kernel, by decide +kernel⟩⟩
theorem gm_Ranking_63 : gMk "TermDesk$Ranking" 63 y_Wide_set := Or.inr ⟨"TermDesk", gNs_at 874 (by decide +kernel) (by decide +kernel)⟩
theorem d_Wide_set_0 : decode prog_11_method_2_code 0 = .ok (.aload_n 0, 1) := by decide +kernel
theorem d_Wide_set_1 : decode prog_11_method_2_code 1 = .ok (.iconst 0, 1) := by decide +kernel
theorem d_Wide_set_2 : decode prog_11_method_2_code 2 = .ok (.invokestatic 7, 3) := by decide +kernel
theorem d_Wide_set_5 : decode prog_11_method_2_code 5 = .ok (.aload_n 0, 1) := by decide +kernel
theorem d_Wide_set_6 : decode prog_11_method_2_code 6 = .ok (.iconst 0, 1) := by decide +kernel
theorem d_Wide_set_7 : decode prog_11_method_2_code 7 = .ok (.iload_n 1, 1) := by decide +kernel
theorem d_Wide_set_8 : decode prog_11_method_2_code 8 = .ok (.iastore, 1) := by decide +kernel
theorem d_Wide_set_9 : decode prog_11_method_2_code 9 = .ok (.return_, 1) := by decide +kernel
noncomputable def M_Wide_set (a0 : Nat) (x1 : Int32) (u : gSt) : Option (gSt) :=
  (M_Arrays_fillI a0 (0 : Int32) u).bind fun q2 =>
  gc (gK a0 == 22) <| gc (gIn (0 : Int32) (gLen a0)) <| (some (gsA q2 a0 (gIx (0 : Int32)) x1)).bind fun u8 =>
  some u8
set_option maxHeartbeats 4000000 in
set_option maxRecDepth 100000 in
theorem t_Wide_set (C : gX "TermDesk$Wide" prog_11_method_2_code 2 none 1 23 R cells slots cy D ρ A p s m args meth c) {a0 : Nat} {x1 : Int32} {u : gSt} {z : gSt} (hM : M_Wide_set a0 x1 u = some z) (hR : gRtV p l e R s m args below meth c Q H0 cells slots cy D ρ A prog_11_method_2_code z) : gAt p l e R s m args below meth c Q H0 cells slots cy D ρ A 2 0 [(0, .ref (ρ a0)), (1, .int x1)] [] u := by
  intro ls H locs hl hP hS
  have hx := C.1
  have hb := C.2.1
  unfold M_Wide_set at hM
  refine lv_aload_n hx hb d_Wide_set_0 rfl (lv_at hl 0 rfl) ?_
  refine lv_iconst (v := (0 : Int32)) hx hb d_Wide_set_1 (by decide) ?_
  obtain ⟨q2, hq2, hM⟩ := gb_some hM
  refine g_backV (g_runS (As := [.ref (ρ a0), .int (0 : Int32)]) C hP (c_Arrays_fillI C.2.2.2.2.2.2.2.2.1 hq2) gi_Arrays_fillI gm_Wide_7 rfl (by decide) (by decide) hl.1 rfl (Nat.le_of_ble_eq_true rfl) d_Wide_set_2) hS (fun H locs hP hS => ?_)
  refine lv_aload_n hx hb d_Wide_set_5 rfl (lv_at hl 0 rfl) ?_
  refine lv_iconst (v := (0 : Int32)) hx hb d_Wide_set_6 (by decide) ?_
  refine lv_iload_n hx hb d_Wide_set_7 rfl (lv_at hl 1 rfl) ?_
  obtain ⟨h8, hM⟩ := gc_some hM
  obtain ⟨hi8, hM⟩ := gc_some hM
  obtain ⟨u8, e8, hM⟩ := gb_some hM
  refine g_iast C hP hS (eq_of_beq h8) hi8 d_Wide_set_8 (fun H locs hP hS => ?_)
  rw [Option.some.inj e8] at hP
  obtain rfl := Option.some.inj hM
  exact hR _ ls H locs d_Wide_set_9 hP hS
theorem c_Wide_set {l : Launch} {cy : Nat → ClassId} {D : va_G} {ρ : Nat → Nat} {A : Nat → Prop} (hD : gD ρ A) {a0 : Nat} {x1 : Int32} {u : gSt} {z : gSt} (hM : M_Wide_set a0 x1 u = some z) : gCtV l y_Wide_set prog_11_method_2_code 2 none 1 23 cy D ρ A [.ref (ρ a0), .int x1] u z :=
  g_met (by decide) hD (Nat.le_of_ble_eq_true rfl) (fun p e s m below meth c ls X hl hP => t_Wide_set X hM (fun pc ls H locs hd hP hS => g_vret X hP hS hd) ls _ [] hl hP va_S.rf)
end
section
variable {p : Program} {l : Launch} {e : Env} {R : Room} {s : State} {m : MethodId} {args : Array Value} {below : List Frame} {meth : Method} {c : Code} {Q : State → Prop} {H0 : Heap} {cells slots : Nat} {cy : Nat → ClassId} {D : va_G} {ρ : Nat → Nat} {A : Nat → Prop}
def y_Wide_divide : MethodName := ⟨"TermDesk$Wide", "divide", "([II)V"⟩
theorem gi_Wide_divide : gMs y_Wide_divide prog_11_method_5_code 5 none 2 := ⟨(gWs_at 889 (by decide +kernel) (by decide +kernel)), (gWs_at 888 (by decide +kernel) (by decide +kernel)), (gWs_at 139 (by decide +kernel) (by decide +kernel)), ⟨by decide +kernel, by decide +kernel, by decide +kernel⟩⟩
theorem gm_Wide_27 : gMk "TermDesk$Wide" 27 y_Wide_divide := Or.inl (gWs_at 887 (by decide +kernel) (by decide +kernel))
theorem gm_Ranking_128 : gMk "TermDesk$Ranking" 128 y_Wide_divide := Or.inr ⟨"TermDesk", gNs_at 911 (by decide +kernel) (by decide +kernel)⟩
theorem gm_Strip_55 : gMk "TermDesk$Strip" 55 y_Wide_divide := Or.inr ⟨"TermDesk", gNs_at 994 (by decide +kernel) (by decide +kernel)⟩
theorem d_Wide_divide_0 : decode prog_11_method_5_code 0 = .ok (.iload_n 1, 1) := by decide +kernel
theorem d_Wide_divide_1 : decode prog_11_method_5_code 1 = .ok (.iconst 1, 1) := by decide +kernel
theorem d_Wide_divide_2 : decode prog_11_method_5_code 2 = .ok (.if_icmp .ge 4, 3) := by decide +kernel
theorem d_Wide_divide_5 : decode prog_11_method_5_code 5 = .ok (.return_, 1) := by decide +kernel
theorem d_Wide_divide_6 : decode prog_11_method_5_code 6 = .ok (.lconst 0, 1) := by decide +kernel
theorem d_Wide_divide_7 : decode prog_11_method_5_code 7 = .ok (.lstore_n 2, 1) := by decide +kernel
theorem d_Wide_divide_8 : decode prog_11_method_5_code 8 = .ok (.bipush 7, 2) := by decide +kernel
theorem d_Wide_divide_10 : decode prog_11_method_5_code 10 = .ok (.istore 4, 2) := by decide +kernel
theorem d_Wide_divide_12 : decode prog_11_method_5_code 12 = .ok (.iload 4, 2) := by decide +kernel
theorem d_Wide_divide_14 : decode prog_11_method_5_code 14 = .ok (.ifCond .lt 35, 3) := by decide +kernel
theorem d_Wide_divide_17 : decode prog_11_method_5_code 17 = .ok (.lload_n 2, 1) := by decide +kernel
theorem d_Wide_divide_18 : decode prog_11_method_5_code 18 = .ok (.ldc2_w 21, 3) := by decide +kernel
theorem d_Wide_divide_21 : decode prog_11_method_5_code 21 = .ok (.lmul, 1) := by decide +kernel
theorem d_Wide_divide_22 : decode prog_11_method_5_code 22 = .ok (.aload_n 0, 1) := by decide +kernel
theorem d_Wide_divide_23 : decode prog_11_method_5_code 23 = .ok (.iload 4, 2) := by decide +kernel
theorem d_Wide_divide_25 : decode prog_11_method_5_code 25 = .ok (.iaload, 1) := by decide +kernel
theorem d_Wide_divide_26 : decode prog_11_method_5_code 26 = .ok (.i2l, 1) := by decide +kernel
theorem d_Wide_divide_27 : decode prog_11_method_5_code 27 = .ok (.ladd, 1) := by decide +kernel
theorem d_Wide_divide_28 : decode prog_11_method_5_code 28 = .ok (.lstore_n 2, 1) := by decide +kernel
theorem d_Wide_divide_29 : decode prog_11_method_5_code 29 = .ok (.aload_n 0, 1) := by decide +kernel
theorem d_Wide_divide_30 : decode prog_11_method_5_code 30 = .ok (.iload 4, 2) := by decide +kernel
theorem d_Wide_divide_32 : decode prog_11_method_5_code 32 = .ok (.lload_n 2, 1) := by decide +kernel
theorem d_Wide_divide_33 : decode prog_11_method_5_code 33 = .ok (.iload_n 1, 1) := by decide +kernel
theorem d_Wide_divide_34 : decode prog_11_method_5_code 34 = .ok (.i2l, 1) := by decide +kernel
theorem d_Wide_divide_35 : decode prog_11_method_5_code 35 = .ok (.ldiv, 1) := by decide +kernel
theorem d_Wide_divide_36 : decode prog_11_method_5_code 36 = .ok (.l2i, 1) := by decide +kernel
theorem d_Wide_divide_37 : decode prog_11_method_5_code 37 = .ok (.iastore, 1) := by decide +kernel
theorem d_Wide_divide_38 : decode prog_11_method_5_code 38 = .ok (.lload_n 2, 1) := by decide +kernel
theorem d_Wide_divide_39 : decode prog_11_method_5_code 39 = .ok (.iload_n 1, 1) := by decide +kernel
theorem d_Wide_divide_40 : decode prog_11_method_5_code 40 = .ok (.i2l, 1) := by decide +kernel
theorem d_Wide_divide_41 : decode prog_11_method_5_code 41 = .ok (.lrem, 1) := by decide +kernel
theorem d_Wide_divide_42 : decode prog_11_method_5_code 42 = .ok (.lstore_n 2, 1) := by decide +kernel
theorem d_Wide_divide_43 : decode prog_11_method_5_code 43 = .ok (.iinc 4 (-1), 3) := by decide +kernel
theorem d_Wide_divide_46 : decode prog_11_method_5_code 46 = .ok (.goto (-34), 3) := by decide +kernel
theorem d_Wide_divide_49 : decode prog_11_method_5_code 49 = .ok (.return_, 1) := by decide +kernel
noncomputable def M_Wide_divide_b12 (a0 : Nat) (x1 : Int32) (y2 : Int64) (x4 : Int32) (u : gSt) : Option ((Nat × Int32 × Int64 × Int32 × gSt) ⊕ ((gSt))) :=
  if x4 < (0 : Int32) then
    (some (.inr u))
  else
    (gc (gK a0 == 22) <| gc (gIn x4 (gLen a0)) <| gc (!(x1.toInt64 == 0)) <| gc (gK a0 == 22) <| gc (gIn x4 (gLen a0)) <| (some (gsA u a0 (gIx x4) ((((y2 * (1000000000 : Int64)) + ((u.2.2.1 a0 (gIx x4)).toInt64)) / x1.toInt64).toInt32))).bind fun u37 =>
    gc (!(x1.toInt64 == 0)) <| some (.inl (a0, x1, ((y2 * (1000000000 : Int64)) + ((u.2.2.1 a0 (gIx x4)).toInt64)) - ((y2 * (1000000000 : Int64)) + ((u.2.2.1 a0 (gIx x4)).toInt64)) / x1.toInt64 * x1.toInt64, x4 + (-1 : Int32), u37)))
set_option maxHeartbeats 4000000 in
set_option maxRecDepth 100000 in
theorem t_Wide_divide_b12 (C : gX "TermDesk$Wide" prog_11_method_5_code 5 none 0 0 R cells slots cy D ρ A p s m args meth c) {a0 : Nat} {x1 : Int32} {y2 : Int64} {x4 : Int32} {u : gSt} {z : (Nat × Int32 × Int64 × Int32 × gSt) ⊕ ((gSt))} (hM : M_Wide_divide_b12 a0 x1 y2 x4 u = some z) (hN : ∀ a0' x1' y2' x4' u', z = .inl (a0', x1', y2', x4', u') → gAt p l e R s m args below meth c Q H0 cells slots cy D ρ A 5 12 [(0, .ref (ρ (a0'))), (1, .int (x1')), (2, .long (y2')), (4, .int (x4'))] [] (u')) (hE0 : ∀ u', z = .inr u' → gAt p l e R s m args below meth c Q H0 cells slots cy D ρ A 5 49 [] [] (u')) : gAt p l e R s m args below meth c Q H0 cells slots cy D ρ A 5 12 [(0, .ref (ρ a0)), (1, .int x1), (2, .long y2), (4, .int x4)] [] u := by
  intro ls H locs hl hP hS
  have hx := C.1
  have hb := C.2.1
  unfold M_Wide_divide_b12 at hM
  refine lv_iload hx hb d_Wide_divide_12 (lv_at hl 3 rfl) ?_
  refine lv_if_lt (tgt := 49) hx hb d_Wide_divide_14 (by decide) (fun hc14 => ?_) (fun hc14 => ?_)
  · replace hM := gi_t hc14 hM
    exact hE0 _ (Option.some.inj hM).symm ls H locs (lv_sub hl [] rfl) hP hS
  · replace hM := gi_f hc14 hM
    refine lv_lload_n hx hb d_Wide_divide_17 rfl (lv_at hl 2 rfl) ?_
    refine lv_ldc2 (v := 1000000000) hx hb C.2.2.2.2.1 (C.2.2.2.2.2.1 _ (gWs_at 886 (by decide +kernel) (by decide +kernel))) d_Wide_divide_18 ?_
    refine lv_lmul hx hb d_Wide_divide_21 ?_
    refine lv_aload_n hx hb d_Wide_divide_22 rfl (lv_at hl 0 rfl) ?_
    refine lv_iload hx hb d_Wide_divide_23 (lv_at hl 3 rfl) ?_
    obtain ⟨h25, hM⟩ := gc_some hM
    obtain ⟨hi25, hM⟩ := gc_some hM
    refine g_iald C hP (eq_of_beq h25) hi25 d_Wide_divide_25 ?_
    refine lv_i2l (v := (u.2.2.1 a0 (gIx x4)).toInt64) hx hb d_Wide_divide_26 rfl ?_
    refine lv_ladd hx hb d_Wide_divide_27 ?_
    refine lv_lstore_n (lv' := [(2, .long ((y2 * (1000000000 : Int64)) + ((u.2.2.1 a0 (gIx x4)).toInt64))), (0, .ref (ρ a0)), (1, .int x1), (4, .int x4)]) hx hb d_Wide_divide_28 rfl hl (by decide) rfl (fun ls hl => ?_)
    refine lv_aload_n hx hb d_Wide_divide_29 rfl (lv_at hl 1 rfl) ?_
    refine lv_iload hx hb d_Wide_divide_30 (lv_at hl 3 rfl) ?_
    refine lv_lload_n hx hb d_Wide_divide_32 rfl (lv_at hl 0 rfl) ?_
    refine lv_iload_n hx hb d_Wide_divide_33 rfl (lv_at hl 2 rfl) ?_
    refine lv_i2l (v := x1.toInt64) hx hb d_Wide_divide_34 rfl ?_
    obtain ⟨h35, hM⟩ := gc_some hM
    refine lv_ldiv hx hb d_Wide_divide_35 (gne0L h35) ?_
    refine lv_l2i (v := (((y2 * (1000000000 : Int64)) + ((u.2.2.1 a0 (gIx x4)).toInt64)) / x1.toInt64).toInt32) hx hb d_Wide_divide_36 rfl ?_
    obtain ⟨h37, hM⟩ := gc_some hM
    obtain ⟨hi37, hM⟩ := gc_some hM
    obtain ⟨u37, e37, hM⟩ := gb_some hM
    refine g_iast C hP hS (eq_of_beq h37) hi37 d_Wide_divide_37 (fun H locs hP hS => ?_)
    rw [Option.some.inj e37] at hP
    refine lv_lload_n hx hb d_Wide_divide_38 rfl (lv_at hl 0 rfl) ?_
    refine lv_iload_n hx hb d_Wide_divide_39 rfl (lv_at hl 2 rfl) ?_
    refine lv_i2l (v := x1.toInt64) hx hb d_Wide_divide_40 rfl ?_
    obtain ⟨h41, hM⟩ := gc_some hM
    refine lv_lrem hx hb d_Wide_divide_41 (gne0L h41) ?_
    refine lv_lstore_n (lv' := [(2, .long (((y2 * (1000000000 : Int64)) + ((u.2.2.1 a0 (gIx x4)).toInt64)) - ((y2 * (1000000000 : Int64)) + ((u.2.2.1 a0 (gIx x4)).toInt64)) / x1.toInt64 * x1.toInt64)), (0, .ref (ρ a0)), (1, .int x1), (4, .int x4)]) hx hb d_Wide_divide_42 rfl hl (by decide) rfl (fun ls hl => ?_)
    refine lv_iinc (k := 3) (v := x4 + (-1 : Int32)) (lv' := [(4, .int (x4 + (-1 : Int32))), (2, .long (((y2 * (1000000000 : Int64)) + ((u.2.2.1 a0 (gIx x4)).toInt64)) - ((y2 * (1000000000 : Int64)) + ((u.2.2.1 a0 (gIx x4)).toInt64)) / x1.toInt64 * x1.toInt64)), (0, .ref (ρ a0)), (1, .int x1)]) hx hb d_Wide_divide_43 hl rfl (congrArg (fun z => x4 + z) (by decide)) (by decide) rfl (fun ls hl => ?_)
    refine lv_goto (tgt := 12) hx hb d_Wide_divide_46 (by decide) ?_
    exact hN _ _ _ _ _ (Option.some.inj hM).symm ls H locs (lv_sub hl [2, 3, 1, 0] rfl) hP hS
noncomputable def M_Wide_divide_L12 : (Nat × Int32 × Int64 × Int32 × gSt) → Option ((Nat × Int32 × Int64 × Int32 × gSt) ⊕ ((gSt))) := fun x => M_Wide_divide_b12 x.1 x.2.1 x.2.2.1 x.2.2.2.1 x.2.2.2.2
theorem t_Wide_divide_L12 (C : gX "TermDesk$Wide" prog_11_method_5_code 5 none 0 0 R cells slots cy D ρ A p s m args meth c) {a0 : Nat} {x1 : Int32} {y2 : Int64} {x4 : Int32} {u : gSt} {yy : (gSt)} (hL : gLp M_Wide_divide_L12 (a0, x1, y2, x4, u) = some yy) (hE0 : (∀ y', yy = y' → gAt p l e R s m args below meth c Q H0 cells slots cy D ρ A 5 49 [] [] (y'))) : gAt p l e R s m args below meth c Q H0 cells slots cy D ρ A 5 12 [(0, .ref (ρ a0)), (1, .int x1), (2, .long y2), (4, .int x4)] [] u :=
  g_loop (f := M_Wide_divide_L12) (P := fun x => gAt p l e R s m args below meth c Q H0 cells slots cy D ρ A 5 12 [(0, .ref (ρ x.1)), (1, .int x.2.1), (2, .long x.2.2.1), (4, .int x.2.2.2.1)] [] x.2.2.2.2) (E := fun yy => (∀ y', yy = y' → gAt p l e R s m args below meth c Q H0 cells slots cy D ρ A 5 49 [] [] (y'))) (fun x z hf hN hE => t_Wide_divide_b12 C hf (fun a0' x1' y2' x4' u' h => hN (a0', x1', y2', x4', u') h) (fun u' h => (hE _ h) u' rfl)) hL hE0
noncomputable def M_Wide_divide (a0 : Nat) (x1 : Int32) (u : gSt) : Option (gSt) :=
  if (1 : Int32) ≤ x1 then
    ((gLp M_Wide_divide_L12 (a0, x1, (0 : Int64), (7 : Int32), u)).bind fun y12 =>
    some y12)
  else
    (some u)
set_option maxHeartbeats 4000000 in
set_option maxRecDepth 100000 in
theorem t_Wide_divide (C : gX "TermDesk$Wide" prog_11_method_5_code 5 none 0 0 R cells slots cy D ρ A p s m args meth c) {a0 : Nat} {x1 : Int32} {u : gSt} {z : gSt} (hM : M_Wide_divide a0 x1 u = some z) (hR : gRtV p l e R s m args below meth c Q H0 cells slots cy D ρ A prog_11_method_5_code z) : gAt p l e R s m args below meth c Q H0 cells slots cy D ρ A 5 0 [(0, .ref (ρ a0)), (1, .int x1)] [] u := by
  intro ls H locs hl hP hS
  have hx := C.1
  have hb := C.2.1
  unfold M_Wide_divide at hM
  refine lv_iload_n hx hb d_Wide_divide_0 rfl (lv_at hl 1 rfl) ?_
  refine lv_iconst (v := (1 : Int32)) hx hb d_Wide_divide_1 (by decide) ?_
  refine lv_icmp_ge (tgt := 6) hx hb d_Wide_divide_2 (by decide) (fun hc2 => ?_) (fun hc2 => ?_)
  · replace hM := gi_t hc2 hM
    refine lv_lconst (v := 0) hx hb d_Wide_divide_6 (by decide) ?_
    refine lv_lstore_n (lv' := [(2, .long (0 : Int64)), (0, .ref (ρ a0)), (1, .int x1)]) hx hb d_Wide_divide_7 rfl hl (by decide) rfl (fun ls hl => ?_)
    refine lv_bipush (v := (7 : Int32)) hx hb d_Wide_divide_8 (by decide) ?_
    refine lv_istore (lv' := [(4, .int (7 : Int32)), (2, .long (0 : Int64)), (0, .ref (ρ a0)), (1, .int x1)]) hx hb d_Wide_divide_10 hl (by decide) rfl (fun ls hl => ?_)
    obtain ⟨y12, hL12, hM⟩ := gb_some hM
    refine t_Wide_divide_L12 C hL12 (fun y12_0 hy => ?_) ls H locs (lv_sub hl [2, 3, 1, 0] rfl) hP hS
    · subst hy
      intro ls H locs hl hP hS
      obtain rfl := Option.some.inj hM
      exact hR _ ls H locs d_Wide_divide_49 hP hS
  · replace hM := gi_f hc2 hM
    obtain rfl := Option.some.inj hM
    exact hR _ ls H locs d_Wide_divide_5 hP hS
theorem c_Wide_divide {l : Launch} {cy : Nat → ClassId} {D : va_G} {ρ : Nat → Nat} {A : Nat → Prop} (hD : gD ρ A) {a0 : Nat} {x1 : Int32} {u : gSt} {z : gSt} (hM : M_Wide_divide a0 x1 u = some z) : gCtV l y_Wide_divide prog_11_method_5_code 5 none 0 0 cy D ρ A [.ref (ρ a0), .int x1] u z :=
  g_met (by decide) hD (Nat.le_of_ble_eq_true rfl) (fun p e s m below meth c ls X hl hP => t_Wide_divide X hM (fun pc ls H locs hd hP hS => g_vret X hP hS hd) ls _ [] hl hP va_S.rf)
end
section
variable {p : Program} {l : Launch} {e : Env} {R : Room} {s : State} {m : MethodId} {args : Array Value} {below : List Frame} {meth : Method} {c : Code} {Q : State → Prop} {H0 : Heap} {cells slots : Nat} {cy : Nat → ClassId} {D : va_G} {ρ : Nat → Nat} {A : Nat → Prop}
def y_Wide_multiplyByChoices : MethodName := ⟨"TermDesk$Wide", "multiplyByChoices", "([III)V"⟩
theorem gi_Wide_multiplyByChoices : gMs y_Wide_multiplyByChoices prog_11_method_10_code 4 none 3 := ⟨(gWs_at 882 (by decide +kernel) (by decide +kernel)), (gWs_at 881 (by decide +kernel) (by decide +kernel)), (gWs_at 139 (by decide +kernel) (by decide +kernel)), ⟨by decide +kernel, by decide +kernel, by decide +kernel⟩⟩
theorem gm_Ranking_67 : gMk "TermDesk$Ranking" 67 y_Wide_multiplyByChoices := Or.inr ⟨"TermDesk", gNs_at 880 (by decide +kernel) (by decide +kernel)⟩
theorem d_Wide_multiplyByChoices_0 : decode prog_11_method_10_code 0 = .ok (.iconst 1, 1) := by decide +kernel
theorem d_Wide_multiplyByChoices_1 : decode prog_11_method_10_code 1 = .ok (.istore_n 3, 1) := by decide +kernel
theorem d_Wide_multiplyByChoices_2 : decode prog_11_method_10_code 2 = .ok (.iload_n 3, 1) := by decide +kernel
theorem d_Wide_multiplyByChoices_3 : decode prog_11_method_10_code 3 = .ok (.iload_n 2, 1) := by decide +kernel
theorem d_Wide_multiplyByChoices_4 : decode prog_11_method_10_code 4 = .ok (.if_icmp .gt 23, 3) := by decide +kernel
theorem d_Wide_multiplyByChoices_7 : decode prog_11_method_10_code 7 = .ok (.aload_n 0, 1) := by decide +kernel
theorem d_Wide_multiplyByChoices_8 : decode prog_11_method_10_code 8 = .ok (.iload_n 1, 1) := by decide +kernel
theorem d_Wide_multiplyByChoices_9 : decode prog_11_method_10_code 9 = .ok (.iload_n 2, 1) := by decide +kernel
theorem d_Wide_multiplyByChoices_10 : decode prog_11_method_10_code 10 = .ok (.isub, 1) := by decide +kernel
theorem d_Wide_multiplyByChoices_11 : decode prog_11_method_10_code 11 = .ok (.iload_n 3, 1) := by decide +kernel
theorem d_Wide_multiplyByChoices_12 : decode prog_11_method_10_code 12 = .ok (.iadd, 1) := by decide +kernel
theorem d_Wide_multiplyByChoices_13 : decode prog_11_method_10_code 13 = .ok (.invokestatic 24, 3) := by decide +kernel
theorem d_Wide_multiplyByChoices_16 : decode prog_11_method_10_code 16 = .ok (.aload_n 0, 1) := by decide +kernel
theorem d_Wide_multiplyByChoices_17 : decode prog_11_method_10_code 17 = .ok (.iload_n 3, 1) := by decide +kernel
theorem d_Wide_multiplyByChoices_18 : decode prog_11_method_10_code 18 = .ok (.invokestatic 27, 3) := by decide +kernel
theorem d_Wide_multiplyByChoices_21 : decode prog_11_method_10_code 21 = .ok (.iinc 3 1, 3) := by decide +kernel
theorem d_Wide_multiplyByChoices_24 : decode prog_11_method_10_code 24 = .ok (.goto (-22), 3) := by decide +kernel
theorem d_Wide_multiplyByChoices_27 : decode prog_11_method_10_code 27 = .ok (.return_, 1) := by decide +kernel
noncomputable def M_Wide_multiplyByChoices_b2 (a0 : Nat) (x1 : Int32) (x2 : Int32) (x3 : Int32) (u : gSt) : Option ((Nat × Int32 × Int32 × Int32 × gSt) ⊕ ((gSt))) :=
  if x2 < x3 then
    (some (.inr u))
  else
    ((M_Wide_multiply a0 ((x1 - x2) + x3) u).bind fun q13 =>
    (M_Wide_divide a0 x3 q13).bind fun q18 =>
    some (.inl (a0, x1, x2, x3 + (1 : Int32), q18)))
set_option maxHeartbeats 4000000 in
set_option maxRecDepth 100000 in
theorem t_Wide_multiplyByChoices_b2 (C : gX "TermDesk$Wide" prog_11_method_10_code 4 none 1 24 R cells slots cy D ρ A p s m args meth c) {a0 : Nat} {x1 : Int32} {x2 : Int32} {x3 : Int32} {u : gSt} {z : (Nat × Int32 × Int32 × Int32 × gSt) ⊕ ((gSt))} (hM : M_Wide_multiplyByChoices_b2 a0 x1 x2 x3 u = some z) (hN : ∀ a0' x1' x2' x3' u', z = .inl (a0', x1', x2', x3', u') → gAt p l e R s m args below meth c Q H0 cells slots cy D ρ A 4 2 [(0, .ref (ρ (a0'))), (1, .int (x1')), (2, .int (x2')), (3, .int (x3'))] [] (u')) (hE0 : ∀ u', z = .inr u' → gAt p l e R s m args below meth c Q H0 cells slots cy D ρ A 4 27 [] [] (u')) : gAt p l e R s m args below meth c Q H0 cells slots cy D ρ A 4 2 [(0, .ref (ρ a0)), (1, .int x1), (2, .int x2), (3, .int x3)] [] u := by
  intro ls H locs hl hP hS
  have hx := C.1
  have hb := C.2.1
  unfold M_Wide_multiplyByChoices_b2 at hM
  refine lv_iload_n hx hb d_Wide_multiplyByChoices_2 rfl (lv_at hl 3 rfl) ?_
  refine lv_iload_n hx hb d_Wide_multiplyByChoices_3 rfl (lv_at hl 2 rfl) ?_
  refine lv_icmp_gt (tgt := 27) hx hb d_Wide_multiplyByChoices_4 (by decide) (fun hc4 => ?_) (fun hc4 => ?_)
  · replace hM := gi_t hc4 hM
    exact hE0 _ (Option.some.inj hM).symm ls H locs (lv_sub hl [] rfl) hP hS
  · replace hM := gi_f hc4 hM
    refine lv_aload_n hx hb d_Wide_multiplyByChoices_7 rfl (lv_at hl 0 rfl) ?_
    refine lv_iload_n hx hb d_Wide_multiplyByChoices_8 rfl (lv_at hl 1 rfl) ?_
    refine lv_iload_n hx hb d_Wide_multiplyByChoices_9 rfl (lv_at hl 2 rfl) ?_
    refine lv_isub hx hb d_Wide_multiplyByChoices_10 ?_
    refine lv_iload_n hx hb d_Wide_multiplyByChoices_11 rfl (lv_at hl 3 rfl) ?_
    refine lv_iadd hx hb d_Wide_multiplyByChoices_12 ?_
    obtain ⟨q13, hq13, hM⟩ := gb_some hM
    refine g_backV (g_runS (As := [.ref (ρ a0), .int ((x1 - x2) + x3)]) C hP (c_Wide_multiply C.2.2.2.2.2.2.2.2.1 hq13) gi_Wide_multiply gm_Wide_24 rfl (by decide) (by decide) hl.1 rfl (Nat.le_of_ble_eq_true rfl) d_Wide_multiplyByChoices_13) hS (fun H locs hP hS => ?_)
    refine lv_aload_n hx hb d_Wide_multiplyByChoices_16 rfl (lv_at hl 0 rfl) ?_
    refine lv_iload_n hx hb d_Wide_multiplyByChoices_17 rfl (lv_at hl 3 rfl) ?_
    obtain ⟨q18, hq18, hM⟩ := gb_some hM
    refine g_backV (g_runS (As := [.ref (ρ a0), .int x3]) C hP (c_Wide_divide C.2.2.2.2.2.2.2.2.1 hq18) gi_Wide_divide gm_Wide_27 rfl (by decide) (by decide) hl.1 rfl (Nat.le_of_ble_eq_true rfl) d_Wide_multiplyByChoices_18) hS (fun H locs hP hS => ?_)
    refine lv_iinc (k := 3) (v := x3 + (1 : Int32)) (lv' := [(3, .int (x3 + (1 : Int32))), (0, .ref (ρ a0)), (1, .int x1), (2, .int x2)]) hx hb d_Wide_multiplyByChoices_21 hl rfl (congrArg (fun z => x3 + z) (by decide)) (by decide) rfl (fun ls hl => ?_)
    refine lv_goto (tgt := 2) hx hb d_Wide_multiplyByChoices_24 (by decide) ?_
    exact hN _ _ _ _ _ (Option.some.inj hM).symm ls H locs (lv_sub hl [1, 2, 3, 0] rfl) hP hS
noncomputable def M_Wide_multiplyByChoices_L2 : (Nat × Int32 × Int32 × Int32 × gSt) → Option ((Nat × Int32 × Int32 × Int32 × gSt) ⊕ ((gSt))) := fun x => M_Wide_multiplyByChoices_b2 x.1 x.2.1 x.2.2.1 x.2.2.2.1 x.2.2.2.2
theorem t_Wide_multiplyByChoices_L2 (C : gX "TermDesk$Wide" prog_11_method_10_code 4 none 1 24 R cells slots cy D ρ A p s m args meth c) {a0 : Nat} {x1 : Int32} {x2 : Int32} {x3 : Int32} {u : gSt} {yy : (gSt)} (hL : gLp M_Wide_multiplyByChoices_L2 (a0, x1, x2, x3, u) = some yy) (hE0 : (∀ y', yy = y' → gAt p l e R s m args below meth c Q H0 cells slots cy D ρ A 4 27 [] [] (y'))) : gAt p l e R s m args below meth c Q H0 cells slots cy D ρ A 4 2 [(0, .ref (ρ a0)), (1, .int x1), (2, .int x2), (3, .int x3)] [] u :=
  g_loop (f := M_Wide_multiplyByChoices_L2) (P := fun x => gAt p l e R s m args below meth c Q H0 cells slots cy D ρ A 4 2 [(0, .ref (ρ x.1)), (1, .int x.2.1), (2, .int x.2.2.1), (3, .int x.2.2.2.1)] [] x.2.2.2.2) (E := fun yy => (∀ y', yy = y' → gAt p l e R s m args below meth c Q H0 cells slots cy D ρ A 4 27 [] [] (y'))) (fun x z hf hN hE => t_Wide_multiplyByChoices_b2 C hf (fun a0' x1' x2' x3' u' h => hN (a0', x1', x2', x3', u') h) (fun u' h => (hE _ h) u' rfl)) hL hE0
noncomputable def M_Wide_multiplyByChoices (a0 : Nat) (x1 : Int32) (x2 : Int32) (u : gSt) : Option (gSt) :=
  (gLp M_Wide_multiplyByChoices_L2 (a0, x1, x2, (1 : Int32), u)).bind fun y2 =>
  some y2
set_option maxHeartbeats 4000000 in
set_option maxRecDepth 100000 in
theorem t_Wide_multiplyByChoices (C : gX "TermDesk$Wide" prog_11_method_10_code 4 none 1 24 R cells slots cy D ρ A p s m args meth c) {a0 : Nat} {x1 : Int32} {x2 : Int32} {u : gSt} {z : gSt} (hM : M_Wide_multiplyByChoices a0 x1 x2 u = some z) (hR : gRtV p l e R s m args below meth c Q H0 cells slots cy D ρ A prog_11_method_10_code z) : gAt p l e R s m args below meth c Q H0 cells slots cy D ρ A 4 0 [(0, .ref (ρ a0)), (1, .int x1), (2, .int x2)] [] u := by
  intro ls H locs hl hP hS
  have hx := C.1
  have hb := C.2.1
  unfold M_Wide_multiplyByChoices at hM
  refine lv_iconst (v := (1 : Int32)) hx hb d_Wide_multiplyByChoices_0 (by decide) ?_
  refine lv_istore_n (lv' := [(3, .int (1 : Int32)), (0, .ref (ρ a0)), (1, .int x1), (2, .int x2)]) hx hb d_Wide_multiplyByChoices_1 rfl hl (by decide) rfl (fun ls hl => ?_)
  obtain ⟨y2, hL2, hM⟩ := gb_some hM
  refine t_Wide_multiplyByChoices_L2 C hL2 (fun y2_0 hy => ?_) ls H locs (lv_sub hl [1, 2, 3, 0] rfl) hP hS
  · subst hy
    intro ls H locs hl hP hS
    obtain rfl := Option.some.inj hM
    exact hR _ ls H locs d_Wide_multiplyByChoices_27 hP hS
theorem c_Wide_multiplyByChoices {l : Launch} {cy : Nat → ClassId} {D : va_G} {ρ : Nat → Nat} {A : Nat → Prop} (hD : gD ρ A) {a0 : Nat} {x1 : Int32} {x2 : Int32} {u : gSt} {z : gSt} (hM : M_Wide_multiplyByChoices a0 x1 x2 u = some z) : gCtV l y_Wide_multiplyByChoices prog_11_method_10_code 4 none 1 24 cy D ρ A [.ref (ρ a0), .int x1, .int x2] u z :=
  g_met (by decide) hD (Nat.le_of_ble_eq_true rfl) (fun p e s m below meth c ls X hl hP => t_Wide_multiplyByChoices X hM (fun pc ls H locs hd hP hS => g_vret X hP hS hd) ls _ [] hl hP va_S.rf)
end
section
variable {p : Program} {l : Launch} {e : Env} {R : Room} {s : State} {m : MethodId} {args : Array Value} {below : List Frame} {meth : Method} {c : Code} {Q : State → Prop} {H0 : Heap} {cells slots : Nat} {cy : Nat → ClassId} {D : va_G} {ρ : Nat → Nat} {A : Nat → Prop}
def y_Wide_add : MethodName := ⟨"TermDesk$Wide", "add", "([I[I)V"⟩
theorem gi_Wide_add : gMs y_Wide_add prog_11_method_7_code 5 none 2 := ⟨(gWs_at 914 (by decide +kernel) (by decide +kernel)), (gWs_at 913 (by decide +kernel) (by decide +kernel)), (gWs_at 139 (by decide +kernel) (by decide +kernel)), ⟨by decide +kernel, by decide +kernel, by decide +kernel⟩⟩
theorem gm_Ranking_131 : gMk "TermDesk$Ranking" 131 y_Wide_add := Or.inr ⟨"TermDesk", gNs_at 912 (by decide +kernel) (by decide +kernel)⟩
theorem d_Wide_add_0 : decode prog_11_method_7_code 0 = .ok (.lconst 0, 1) := by decide +kernel
theorem d_Wide_add_1 : decode prog_11_method_7_code 1 = .ok (.lstore_n 2, 1) := by decide +kernel
theorem d_Wide_add_2 : decode prog_11_method_7_code 2 = .ok (.iconst 0, 1) := by decide +kernel
theorem d_Wide_add_3 : decode prog_11_method_7_code 3 = .ok (.istore 4, 2) := by decide +kernel
theorem d_Wide_add_5 : decode prog_11_method_7_code 5 = .ok (.iload 4, 2) := by decide +kernel
theorem d_Wide_add_7 : decode prog_11_method_7_code 7 = .ok (.bipush 8, 2) := by decide +kernel
theorem d_Wide_add_9 : decode prog_11_method_7_code 9 = .ok (.if_icmp .ge 39, 3) := by decide +kernel
theorem d_Wide_add_12 : decode prog_11_method_7_code 12 = .ok (.lload_n 2, 1) := by decide +kernel
theorem d_Wide_add_13 : decode prog_11_method_7_code 13 = .ok (.aload_n 0, 1) := by decide +kernel
theorem d_Wide_add_14 : decode prog_11_method_7_code 14 = .ok (.iload 4, 2) := by decide +kernel
theorem d_Wide_add_16 : decode prog_11_method_7_code 16 = .ok (.iaload, 1) := by decide +kernel
theorem d_Wide_add_17 : decode prog_11_method_7_code 17 = .ok (.i2l, 1) := by decide +kernel
theorem d_Wide_add_18 : decode prog_11_method_7_code 18 = .ok (.aload_n 1, 1) := by decide +kernel
theorem d_Wide_add_19 : decode prog_11_method_7_code 19 = .ok (.iload 4, 2) := by decide +kernel
theorem d_Wide_add_21 : decode prog_11_method_7_code 21 = .ok (.iaload, 1) := by decide +kernel
theorem d_Wide_add_22 : decode prog_11_method_7_code 22 = .ok (.i2l, 1) := by decide +kernel
theorem d_Wide_add_23 : decode prog_11_method_7_code 23 = .ok (.ladd, 1) := by decide +kernel
theorem d_Wide_add_24 : decode prog_11_method_7_code 24 = .ok (.ladd, 1) := by decide +kernel
theorem d_Wide_add_25 : decode prog_11_method_7_code 25 = .ok (.lstore_n 2, 1) := by decide +kernel
theorem d_Wide_add_26 : decode prog_11_method_7_code 26 = .ok (.aload_n 0, 1) := by decide +kernel
theorem d_Wide_add_27 : decode prog_11_method_7_code 27 = .ok (.iload 4, 2) := by decide +kernel
theorem d_Wide_add_29 : decode prog_11_method_7_code 29 = .ok (.lload_n 2, 1) := by decide +kernel
theorem d_Wide_add_30 : decode prog_11_method_7_code 30 = .ok (.ldc2_w 21, 3) := by decide +kernel
theorem d_Wide_add_33 : decode prog_11_method_7_code 33 = .ok (.lrem, 1) := by decide +kernel
theorem d_Wide_add_34 : decode prog_11_method_7_code 34 = .ok (.l2i, 1) := by decide +kernel
theorem d_Wide_add_35 : decode prog_11_method_7_code 35 = .ok (.iastore, 1) := by decide +kernel
theorem d_Wide_add_36 : decode prog_11_method_7_code 36 = .ok (.lload_n 2, 1) := by decide +kernel
theorem d_Wide_add_37 : decode prog_11_method_7_code 37 = .ok (.ldc2_w 21, 3) := by decide +kernel
theorem d_Wide_add_40 : decode prog_11_method_7_code 40 = .ok (.ldiv, 1) := by decide +kernel
theorem d_Wide_add_41 : decode prog_11_method_7_code 41 = .ok (.lstore_n 2, 1) := by decide +kernel
theorem d_Wide_add_42 : decode prog_11_method_7_code 42 = .ok (.iinc 4 1, 3) := by decide +kernel
theorem d_Wide_add_45 : decode prog_11_method_7_code 45 = .ok (.goto (-40), 3) := by decide +kernel
theorem d_Wide_add_48 : decode prog_11_method_7_code 48 = .ok (.return_, 1) := by decide +kernel
noncomputable def M_Wide_add_b5 (a0 : Nat) (a1 : Nat) (y2 : Int64) (x4 : Int32) (u : gSt) : Option ((Nat × Nat × Int64 × Int32 × gSt) ⊕ ((gSt))) :=
  if (8 : Int32) ≤ x4 then
    (some (.inr u))
  else
    (gc (gK a0 == 22) <| gc (gIn x4 (gLen a0)) <| gc (gK a1 == 22) <| gc (gIn x4 (gLen a1)) <| gc (gK a0 == 22) <| gc (gIn x4 (gLen a0)) <| (some (gsA u a0 (gIx x4) (((y2 + (((u.2.2.1 a0 (gIx x4)).toInt64) + ((u.2.2.1 a1 (gIx x4)).toInt64))) - (y2 + (((u.2.2.1 a0 (gIx x4)).toInt64) + ((u.2.2.1 a1 (gIx x4)).toInt64))) / (1000000000 : Int64) * (1000000000 : Int64)).toInt32))).bind fun u35 =>
    some (.inl (a0, a1, (y2 + (((u.2.2.1 a0 (gIx x4)).toInt64) + ((u.2.2.1 a1 (gIx x4)).toInt64))) / (1000000000 : Int64), x4 + (1 : Int32), u35)))
set_option maxHeartbeats 4000000 in
set_option maxRecDepth 100000 in
theorem t_Wide_add_b5 (C : gX "TermDesk$Wide" prog_11_method_7_code 5 none 0 0 R cells slots cy D ρ A p s m args meth c) {a0 : Nat} {a1 : Nat} {y2 : Int64} {x4 : Int32} {u : gSt} {z : (Nat × Nat × Int64 × Int32 × gSt) ⊕ ((gSt))} (hM : M_Wide_add_b5 a0 a1 y2 x4 u = some z) (hN : ∀ a0' a1' y2' x4' u', z = .inl (a0', a1', y2', x4', u') → gAt p l e R s m args below meth c Q H0 cells slots cy D ρ A 5 5 [(0, .ref (ρ (a0'))), (1, .ref (ρ (a1'))), (2, .long (y2')), (4, .int (x4'))] [] (u')) (hE0 : ∀ u', z = .inr u' → gAt p l e R s m args below meth c Q H0 cells slots cy D ρ A 5 48 [] [] (u')) : gAt p l e R s m args below meth c Q H0 cells slots cy D ρ A 5 5 [(0, .ref (ρ a0)), (1, .ref (ρ a1)), (2, .long y2), (4, .int x4)] [] u := by
  intro ls H locs hl hP hS
  have hx := C.1
  have hb := C.2.1
  unfold M_Wide_add_b5 at hM
  refine lv_iload hx hb d_Wide_add_5 (lv_at hl 3 rfl) ?_
  refine lv_bipush (v := (8 : Int32)) hx hb d_Wide_add_7 (by decide) ?_
  refine lv_icmp_ge (tgt := 48) hx hb d_Wide_add_9 (by decide) (fun hc9 => ?_) (fun hc9 => ?_)
  · replace hM := gi_t hc9 hM
    exact hE0 _ (Option.some.inj hM).symm ls H locs (lv_sub hl [] rfl) hP hS
  · replace hM := gi_f hc9 hM
    refine lv_lload_n hx hb d_Wide_add_12 rfl (lv_at hl 2 rfl) ?_
    refine lv_aload_n hx hb d_Wide_add_13 rfl (lv_at hl 0 rfl) ?_
    refine lv_iload hx hb d_Wide_add_14 (lv_at hl 3 rfl) ?_
    obtain ⟨h16, hM⟩ := gc_some hM
    obtain ⟨hi16, hM⟩ := gc_some hM
    refine g_iald C hP (eq_of_beq h16) hi16 d_Wide_add_16 ?_
    refine lv_i2l (v := (u.2.2.1 a0 (gIx x4)).toInt64) hx hb d_Wide_add_17 rfl ?_
    refine lv_aload_n hx hb d_Wide_add_18 rfl (lv_at hl 1 rfl) ?_
    refine lv_iload hx hb d_Wide_add_19 (lv_at hl 3 rfl) ?_
    obtain ⟨h21, hM⟩ := gc_some hM
    obtain ⟨hi21, hM⟩ := gc_some hM
    refine g_iald C hP (eq_of_beq h21) hi21 d_Wide_add_21 ?_
    refine lv_i2l (v := (u.2.2.1 a1 (gIx x4)).toInt64) hx hb d_Wide_add_22 rfl ?_
    refine lv_ladd hx hb d_Wide_add_23 ?_
    refine lv_ladd hx hb d_Wide_add_24 ?_
    refine lv_lstore_n (lv' := [(2, .long (y2 + (((u.2.2.1 a0 (gIx x4)).toInt64) + ((u.2.2.1 a1 (gIx x4)).toInt64)))), (0, .ref (ρ a0)), (1, .ref (ρ a1)), (4, .int x4)]) hx hb d_Wide_add_25 rfl hl (by decide) rfl (fun ls hl => ?_)
    refine lv_aload_n hx hb d_Wide_add_26 rfl (lv_at hl 1 rfl) ?_
    refine lv_iload hx hb d_Wide_add_27 (lv_at hl 3 rfl) ?_
    refine lv_lload_n hx hb d_Wide_add_29 rfl (lv_at hl 0 rfl) ?_
    refine lv_ldc2 (v := 1000000000) hx hb C.2.2.2.2.1 (C.2.2.2.2.2.1 _ (gWs_at 886 (by decide +kernel) (by decide +kernel))) d_Wide_add_30 ?_
    refine lv_lrem hx hb d_Wide_add_33 (by decide) ?_
    refine lv_l2i (v := ((y2 + (((u.2.2.1 a0 (gIx x4)).toInt64) + ((u.2.2.1 a1 (gIx x4)).toInt64))) - (y2 + (((u.2.2.1 a0 (gIx x4)).toInt64) + ((u.2.2.1 a1 (gIx x4)).toInt64))) / (1000000000 : Int64) * (1000000000 : Int64)).toInt32) hx hb d_Wide_add_34 rfl ?_
    obtain ⟨h35, hM⟩ := gc_some hM
    obtain ⟨hi35, hM⟩ := gc_some hM
    obtain ⟨u35, e35, hM⟩ := gb_some hM
    refine g_iast C hP hS (eq_of_beq h35) hi35 d_Wide_add_35 (fun H locs hP hS => ?_)
    rw [Option.some.inj e35] at hP
    refine lv_lload_n hx hb d_Wide_add_36 rfl (lv_at hl 0 rfl) ?_
    refine lv_ldc2 (v := 1000000000) hx hb C.2.2.2.2.1 (C.2.2.2.2.2.1 _ (gWs_at 886 (by decide +kernel) (by decide +kernel))) d_Wide_add_37 ?_
    refine lv_ldiv hx hb d_Wide_add_40 (by decide) ?_
    refine lv_lstore_n (lv' := [(2, .long ((y2 + (((u.2.2.1 a0 (gIx x4)).toInt64) + ((u.2.2.1 a1 (gIx x4)).toInt64))) / (1000000000 : Int64))), (0, .ref (ρ a0)), (1, .ref (ρ a1)), (4, .int x4)]) hx hb d_Wide_add_41 rfl hl (by decide) rfl (fun ls hl => ?_)
    refine lv_iinc (k := 3) (v := x4 + (1 : Int32)) (lv' := [(4, .int (x4 + (1 : Int32))), (2, .long ((y2 + (((u.2.2.1 a0 (gIx x4)).toInt64) + ((u.2.2.1 a1 (gIx x4)).toInt64))) / (1000000000 : Int64))), (0, .ref (ρ a0)), (1, .ref (ρ a1))]) hx hb d_Wide_add_42 hl rfl (congrArg (fun z => x4 + z) (by decide)) (by decide) rfl (fun ls hl => ?_)
    refine lv_goto (tgt := 5) hx hb d_Wide_add_45 (by decide) ?_
    exact hN _ _ _ _ _ (Option.some.inj hM).symm ls H locs (lv_sub hl [2, 3, 1, 0] rfl) hP hS
noncomputable def M_Wide_add_L5 : (Nat × Nat × Int64 × Int32 × gSt) → Option ((Nat × Nat × Int64 × Int32 × gSt) ⊕ ((gSt))) := fun x => M_Wide_add_b5 x.1 x.2.1 x.2.2.1 x.2.2.2.1 x.2.2.2.2
theorem t_Wide_add_L5 (C : gX "TermDesk$Wide" prog_11_method_7_code 5 none 0 0 R cells slots cy D ρ A p s m args meth c) {a0 : Nat} {a1 : Nat} {y2 : Int64} {x4 : Int32} {u : gSt} {yy : (gSt)} (hL : gLp M_Wide_add_L5 (a0, a1, y2, x4, u) = some yy) (hE0 : (∀ y', yy = y' → gAt p l e R s m args below meth c Q H0 cells slots cy D ρ A 5 48 [] [] (y'))) : gAt p l e R s m args below meth c Q H0 cells slots cy D ρ A 5 5 [(0, .ref (ρ a0)), (1, .ref (ρ a1)), (2, .long y2), (4, .int x4)] [] u :=
  g_loop (f := M_Wide_add_L5) (P := fun x => gAt p l e R s m args below meth c Q H0 cells slots cy D ρ A 5 5 [(0, .ref (ρ x.1)), (1, .ref (ρ x.2.1)), (2, .long x.2.2.1), (4, .int x.2.2.2.1)] [] x.2.2.2.2) (E := fun yy => (∀ y', yy = y' → gAt p l e R s m args below meth c Q H0 cells slots cy D ρ A 5 48 [] [] (y'))) (fun x z hf hN hE => t_Wide_add_b5 C hf (fun a0' a1' y2' x4' u' h => hN (a0', a1', y2', x4', u') h) (fun u' h => (hE _ h) u' rfl)) hL hE0
noncomputable def M_Wide_add (a0 : Nat) (a1 : Nat) (u : gSt) : Option (gSt) :=
  (gLp M_Wide_add_L5 (a0, a1, (0 : Int64), (0 : Int32), u)).bind fun y5 =>
  some y5
set_option maxHeartbeats 4000000 in
set_option maxRecDepth 100000 in
theorem t_Wide_add (C : gX "TermDesk$Wide" prog_11_method_7_code 5 none 0 0 R cells slots cy D ρ A p s m args meth c) {a0 : Nat} {a1 : Nat} {u : gSt} {z : gSt} (hM : M_Wide_add a0 a1 u = some z) (hR : gRtV p l e R s m args below meth c Q H0 cells slots cy D ρ A prog_11_method_7_code z) : gAt p l e R s m args below meth c Q H0 cells slots cy D ρ A 5 0 [(0, .ref (ρ a0)), (1, .ref (ρ a1))] [] u := by
  intro ls H locs hl hP hS
  have hx := C.1
  have hb := C.2.1
  unfold M_Wide_add at hM
  refine lv_lconst (v := 0) hx hb d_Wide_add_0 (by decide) ?_
  refine lv_lstore_n (lv' := [(2, .long (0 : Int64)), (0, .ref (ρ a0)), (1, .ref (ρ a1))]) hx hb d_Wide_add_1 rfl hl (by decide) rfl (fun ls hl => ?_)
  refine lv_iconst (v := (0 : Int32)) hx hb d_Wide_add_2 (by decide) ?_
  refine lv_istore (lv' := [(4, .int (0 : Int32)), (2, .long (0 : Int64)), (0, .ref (ρ a0)), (1, .ref (ρ a1))]) hx hb d_Wide_add_3 hl (by decide) rfl (fun ls hl => ?_)
  obtain ⟨y5, hL5, hM⟩ := gb_some hM
  refine t_Wide_add_L5 C hL5 (fun y5_0 hy => ?_) ls H locs (lv_sub hl [2, 3, 1, 0] rfl) hP hS
  · subst hy
    intro ls H locs hl hP hS
    obtain rfl := Option.some.inj hM
    exact hR _ ls H locs d_Wide_add_48 hP hS
theorem c_Wide_add {l : Launch} {cy : Nat → ClassId} {D : va_G} {ρ : Nat → Nat} {A : Nat → Prop} (hD : gD ρ A) {a0 : Nat} {a1 : Nat} {u : gSt} {z : gSt} (hM : M_Wide_add a0 a1 u = some z) : gCtV l y_Wide_add prog_11_method_7_code 5 none 0 0 cy D ρ A [.ref (ρ a0), .ref (ρ a1)] u z :=
  g_met (by decide) hD (Nat.le_of_ble_eq_true rfl) (fun p e s m below meth c ls X hl hP => t_Wide_add X hM (fun pc ls H locs hd hP hS => g_vret X hP hS hd) ls _ [] hl hP va_S.rf)
end
section
variable {p : Program} {l : Launch} {e : Env} {R : Room} {s : State} {m : MethodId} {args : Array Value} {below : List Frame} {meth : Method} {c : Code} {Q : State → Prop} {H0 : Heap} {cells slots : Nat} {cy : Nat → ClassId} {D : va_G} {ρ : Nat → Nat} {A : Nat → Prop}
def y_Wide_subtract : MethodName := ⟨"TermDesk$Wide", "subtract", "([I[I)V"⟩
theorem gi_Wide_subtract : gMs y_Wide_subtract prog_11_method_8_code 5 none 2 := ⟨(gWs_at 1015 (by decide +kernel) (by decide +kernel)), (gWs_at 1014 (by decide +kernel) (by decide +kernel)), (gWs_at 139 (by decide +kernel) (by decide +kernel)), ⟨by decide +kernel, by decide +kernel, by decide +kernel⟩⟩
theorem gm_Strip_69 : gMk "TermDesk$Strip" 69 y_Wide_subtract := Or.inr ⟨"TermDesk", gNs_at 1013 (by decide +kernel) (by decide +kernel)⟩
theorem d_Wide_subtract_0 : decode prog_11_method_8_code 0 = .ok (.iconst 0, 1) := by decide +kernel
theorem d_Wide_subtract_1 : decode prog_11_method_8_code 1 = .ok (.istore_n 2, 1) := by decide +kernel
theorem d_Wide_subtract_2 : decode prog_11_method_8_code 2 = .ok (.iconst 0, 1) := by decide +kernel
theorem d_Wide_subtract_3 : decode prog_11_method_8_code 3 = .ok (.istore_n 3, 1) := by decide +kernel
theorem d_Wide_subtract_4 : decode prog_11_method_8_code 4 = .ok (.iload_n 3, 1) := by decide +kernel
theorem d_Wide_subtract_5 : decode prog_11_method_8_code 5 = .ok (.bipush 8, 2) := by decide +kernel
theorem d_Wide_subtract_7 : decode prog_11_method_8_code 7 = .ok (.if_icmp .ge 49, 3) := by decide +kernel
theorem d_Wide_subtract_10 : decode prog_11_method_8_code 10 = .ok (.aload_n 0, 1) := by decide +kernel
theorem d_Wide_subtract_11 : decode prog_11_method_8_code 11 = .ok (.iload_n 3, 1) := by decide +kernel
theorem d_Wide_subtract_12 : decode prog_11_method_8_code 12 = .ok (.iaload, 1) := by decide +kernel
theorem d_Wide_subtract_13 : decode prog_11_method_8_code 13 = .ok (.aload_n 1, 1) := by decide +kernel
theorem d_Wide_subtract_14 : decode prog_11_method_8_code 14 = .ok (.iload_n 3, 1) := by decide +kernel
theorem d_Wide_subtract_15 : decode prog_11_method_8_code 15 = .ok (.iaload, 1) := by decide +kernel
theorem d_Wide_subtract_16 : decode prog_11_method_8_code 16 = .ok (.isub, 1) := by decide +kernel
theorem d_Wide_subtract_17 : decode prog_11_method_8_code 17 = .ok (.iload_n 2, 1) := by decide +kernel
theorem d_Wide_subtract_18 : decode prog_11_method_8_code 18 = .ok (.isub, 1) := by decide +kernel
theorem d_Wide_subtract_19 : decode prog_11_method_8_code 19 = .ok (.istore 4, 2) := by decide +kernel
theorem d_Wide_subtract_21 : decode prog_11_method_8_code 21 = .ok (.iload 4, 2) := by decide +kernel
theorem d_Wide_subtract_23 : decode prog_11_method_8_code 23 = .ok (.ifCond .ge 7, 3) := by decide +kernel
theorem d_Wide_subtract_26 : decode prog_11_method_8_code 26 = .ok (.iconst 1, 1) := by decide +kernel
theorem d_Wide_subtract_27 : decode prog_11_method_8_code 27 = .ok (.goto 4, 3) := by decide +kernel
theorem d_Wide_subtract_30 : decode prog_11_method_8_code 30 = .ok (.iconst 0, 1) := by decide +kernel
theorem d_Wide_subtract_31 : decode prog_11_method_8_code 31 = .ok (.istore_n 2, 1) := by decide +kernel
theorem d_Wide_subtract_32 : decode prog_11_method_8_code 32 = .ok (.aload_n 0, 1) := by decide +kernel
theorem d_Wide_subtract_33 : decode prog_11_method_8_code 33 = .ok (.iload_n 3, 1) := by decide +kernel
theorem d_Wide_subtract_34 : decode prog_11_method_8_code 34 = .ok (.iload 4, 2) := by decide +kernel
theorem d_Wide_subtract_36 : decode prog_11_method_8_code 36 = .ok (.ifCond .ge 11, 3) := by decide +kernel
theorem d_Wide_subtract_39 : decode prog_11_method_8_code 39 = .ok (.iload 4, 2) := by decide +kernel
theorem d_Wide_subtract_41 : decode prog_11_method_8_code 41 = .ok (.ldc 23, 2) := by decide +kernel
theorem d_Wide_subtract_43 : decode prog_11_method_8_code 43 = .ok (.iadd, 1) := by decide +kernel
theorem d_Wide_subtract_44 : decode prog_11_method_8_code 44 = .ok (.goto 5, 3) := by decide +kernel
theorem d_Wide_subtract_47 : decode prog_11_method_8_code 47 = .ok (.iload 4, 2) := by decide +kernel
theorem d_Wide_subtract_49 : decode prog_11_method_8_code 49 = .ok (.iastore, 1) := by decide +kernel
theorem d_Wide_subtract_50 : decode prog_11_method_8_code 50 = .ok (.iinc 3 1, 3) := by decide +kernel
theorem d_Wide_subtract_53 : decode prog_11_method_8_code 53 = .ok (.goto (-49), 3) := by decide +kernel
theorem d_Wide_subtract_56 : decode prog_11_method_8_code 56 = .ok (.return_, 1) := by decide +kernel
noncomputable def M_Wide_subtract_b49 (a0 : Nat) (a1 : Nat) (x2 : Int32) (x3 : Int32) (s0 : Int32) (s1 : Int32) (s2 : Nat) (u : gSt) : Option ((Nat × Nat × Int32 × Int32 × gSt) ⊕ ((gSt))) :=
  gc (gK s2 == 22) <| gc (gIn s1 (gLen s2)) <| (some (gsA u s2 (gIx s1) s0)).bind fun u49 =>
  some (.inl (a0, a1, x2, x3 + (1 : Int32), u49))
set_option maxHeartbeats 4000000 in
set_option maxRecDepth 100000 in
theorem t_Wide_subtract_b49 (C : gX "TermDesk$Wide" prog_11_method_8_code 5 none 0 0 R cells slots cy D ρ A p s m args meth c) {a0 : Nat} {a1 : Nat} {x2 : Int32} {x3 : Int32} {s0 : Int32} {s1 : Int32} {s2 : Nat} {u : gSt} {z : (Nat × Nat × Int32 × Int32 × gSt) ⊕ ((gSt))} (hM : M_Wide_subtract_b49 a0 a1 x2 x3 s0 s1 s2 u = some z) (hN : ∀ a0' a1' x2' x3' u', z = .inl (a0', a1', x2', x3', u') → gAt p l e R s m args below meth c Q H0 cells slots cy D ρ A 5 4 [(0, .ref (ρ (a0'))), (1, .ref (ρ (a1'))), (2, .int (x2')), (3, .int (x3'))] [] (u')) (hE0 : ∀ u', z = .inr u' → gAt p l e R s m args below meth c Q H0 cells slots cy D ρ A 5 56 [] [] (u')) : gAt p l e R s m args below meth c Q H0 cells slots cy D ρ A 5 49 [(0, .ref (ρ a0)), (1, .ref (ρ a1)), (2, .int x2), (3, .int x3)] [.int s0, .int s1, .ref (ρ s2)] u := by
  intro ls H locs hl hP hS
  have hx := C.1
  have hb := C.2.1
  unfold M_Wide_subtract_b49 at hM
  obtain ⟨h49, hM⟩ := gc_some hM
  obtain ⟨hi49, hM⟩ := gc_some hM
  obtain ⟨u49, e49, hM⟩ := gb_some hM
  refine g_iast C hP hS (eq_of_beq h49) hi49 d_Wide_subtract_49 (fun H locs hP hS => ?_)
  rw [Option.some.inj e49] at hP
  refine lv_iinc (k := 3) (v := x3 + (1 : Int32)) (lv' := [(3, .int (x3 + (1 : Int32))), (0, .ref (ρ a0)), (1, .ref (ρ a1)), (2, .int x2)]) hx hb d_Wide_subtract_50 hl rfl (congrArg (fun z => x3 + z) (by decide)) (by decide) rfl (fun ls hl => ?_)
  refine lv_goto (tgt := 4) hx hb d_Wide_subtract_53 (by decide) ?_
  exact hN _ _ _ _ _ (Option.some.inj hM).symm ls H locs (lv_sub hl [1, 2, 3, 0] rfl) hP hS
noncomputable def M_Wide_subtract_b31 (a0 : Nat) (a1 : Nat) (x3 : Int32) (x4 : Int32) (s0 : Int32) (u : gSt) : Option ((Nat × Nat × Int32 × Int32 × gSt) ⊕ ((gSt))) :=
  if (0 : Int32) ≤ x4 then
    (M_Wide_subtract_b49 a0 a1 s0 x3 x4 x3 a0 u)
  else
    (M_Wide_subtract_b49 a0 a1 s0 x3 (x4 + (1000000000 : Int32)) x3 a0 u)
set_option maxHeartbeats 4000000 in
set_option maxRecDepth 100000 in
theorem t_Wide_subtract_b31 (C : gX "TermDesk$Wide" prog_11_method_8_code 5 none 0 0 R cells slots cy D ρ A p s m args meth c) {a0 : Nat} {a1 : Nat} {x3 : Int32} {x4 : Int32} {s0 : Int32} {u : gSt} {z : (Nat × Nat × Int32 × Int32 × gSt) ⊕ ((gSt))} (hM : M_Wide_subtract_b31 a0 a1 x3 x4 s0 u = some z) (hN : ∀ a0' a1' x2' x3' u', z = .inl (a0', a1', x2', x3', u') → gAt p l e R s m args below meth c Q H0 cells slots cy D ρ A 5 4 [(0, .ref (ρ (a0'))), (1, .ref (ρ (a1'))), (2, .int (x2')), (3, .int (x3'))] [] (u')) (hE0 : ∀ u', z = .inr u' → gAt p l e R s m args below meth c Q H0 cells slots cy D ρ A 5 56 [] [] (u')) : gAt p l e R s m args below meth c Q H0 cells slots cy D ρ A 5 31 [(0, .ref (ρ a0)), (1, .ref (ρ a1)), (3, .int x3), (4, .int x4)] [.int s0] u := by
  intro ls H locs hl hP hS
  have hx := C.1
  have hb := C.2.1
  unfold M_Wide_subtract_b31 at hM
  refine lv_istore_n (lv' := [(2, .int s0), (0, .ref (ρ a0)), (1, .ref (ρ a1)), (3, .int x3), (4, .int x4)]) hx hb d_Wide_subtract_31 rfl hl (by decide) rfl (fun ls hl => ?_)
  refine lv_aload_n hx hb d_Wide_subtract_32 rfl (lv_at hl 1 rfl) ?_
  refine lv_iload_n hx hb d_Wide_subtract_33 rfl (lv_at hl 3 rfl) ?_
  refine lv_iload hx hb d_Wide_subtract_34 (lv_at hl 4 rfl) ?_
  refine lv_if_ge (tgt := 47) hx hb d_Wide_subtract_36 (by decide) (fun hc36 => ?_) (fun hc36 => ?_)
  · replace hM := gi_t hc36 hM
    refine lv_iload hx hb d_Wide_subtract_47 (lv_at hl 4 rfl) ?_
    exact t_Wide_subtract_b49 C hM hN hE0 ls H locs (lv_sub hl [1, 2, 0, 3] rfl) hP hS
  · replace hM := gi_f hc36 hM
    refine lv_iload hx hb d_Wide_subtract_39 (lv_at hl 4 rfl) ?_
    refine lv_ldc (v := (1000000000 : Int32)) hx hb C.2.2.2.2.1 (C.2.2.2.2.2.1 _ (gWs_at 1016 (by decide +kernel) (by decide +kernel))) d_Wide_subtract_41 ?_
    refine lv_iadd hx hb d_Wide_subtract_43 ?_
    refine lv_goto (tgt := 49) hx hb d_Wide_subtract_44 (by decide) ?_
    exact t_Wide_subtract_b49 C hM hN hE0 ls H locs (lv_sub hl [1, 2, 0, 3] rfl) hP hS
noncomputable def M_Wide_subtract_b4 (a0 : Nat) (a1 : Nat) (x2 : Int32) (x3 : Int32) (u : gSt) : Option ((Nat × Nat × Int32 × Int32 × gSt) ⊕ ((gSt))) :=
  if (8 : Int32) ≤ x3 then
    (some (.inr u))
  else
    (gc (gK a0 == 22) <| gc (gIn x3 (gLen a0)) <| gc (gK a1 == 22) <| gc (gIn x3 (gLen a1)) <| if (0 : Int32) ≤ (((u.2.2.1 a0 (gIx x3)) - (u.2.2.1 a1 (gIx x3))) - x2) then
      (M_Wide_subtract_b31 a0 a1 x3 (((u.2.2.1 a0 (gIx x3)) - (u.2.2.1 a1 (gIx x3))) - x2) (0 : Int32) u)
    else
      (M_Wide_subtract_b31 a0 a1 x3 (((u.2.2.1 a0 (gIx x3)) - (u.2.2.1 a1 (gIx x3))) - x2) (1 : Int32) u))
set_option maxHeartbeats 4000000 in
set_option maxRecDepth 100000 in
theorem t_Wide_subtract_b4 (C : gX "TermDesk$Wide" prog_11_method_8_code 5 none 0 0 R cells slots cy D ρ A p s m args meth c) {a0 : Nat} {a1 : Nat} {x2 : Int32} {x3 : Int32} {u : gSt} {z : (Nat × Nat × Int32 × Int32 × gSt) ⊕ ((gSt))} (hM : M_Wide_subtract_b4 a0 a1 x2 x3 u = some z) (hN : ∀ a0' a1' x2' x3' u', z = .inl (a0', a1', x2', x3', u') → gAt p l e R s m args below meth c Q H0 cells slots cy D ρ A 5 4 [(0, .ref (ρ (a0'))), (1, .ref (ρ (a1'))), (2, .int (x2')), (3, .int (x3'))] [] (u')) (hE0 : ∀ u', z = .inr u' → gAt p l e R s m args below meth c Q H0 cells slots cy D ρ A 5 56 [] [] (u')) : gAt p l e R s m args below meth c Q H0 cells slots cy D ρ A 5 4 [(0, .ref (ρ a0)), (1, .ref (ρ a1)), (2, .int x2), (3, .int x3)] [] u := by
  intro ls H locs hl hP hS
  have hx := C.1
  have hb := C.2.1
  unfold M_Wide_subtract_b4 at hM
  refine lv_iload_n hx hb d_Wide_subtract_4 rfl (lv_at hl 3 rfl) ?_
  refine lv_bipush (v := (8 : Int32)) hx hb d_Wide_subtract_5 (by decide) ?_
  refine lv_icmp_ge (tgt := 56) hx hb d_Wide_subtract_7 (by decide) (fun hc7 => ?_) (fun hc7 => ?_)
  · replace hM := gi_t hc7 hM
    exact hE0 _ (Option.some.inj hM).symm ls H locs (lv_sub hl [] rfl) hP hS
  · replace hM := gi_f hc7 hM
    refine lv_aload_n hx hb d_Wide_subtract_10 rfl (lv_at hl 0 rfl) ?_
    refine lv_iload_n hx hb d_Wide_subtract_11 rfl (lv_at hl 3 rfl) ?_
    obtain ⟨h12, hM⟩ := gc_some hM
    obtain ⟨hi12, hM⟩ := gc_some hM
    refine g_iald C hP (eq_of_beq h12) hi12 d_Wide_subtract_12 ?_
    refine lv_aload_n hx hb d_Wide_subtract_13 rfl (lv_at hl 1 rfl) ?_
    refine lv_iload_n hx hb d_Wide_subtract_14 rfl (lv_at hl 3 rfl) ?_
    obtain ⟨h15, hM⟩ := gc_some hM
    obtain ⟨hi15, hM⟩ := gc_some hM
    refine g_iald C hP (eq_of_beq h15) hi15 d_Wide_subtract_15 ?_
    refine lv_isub hx hb d_Wide_subtract_16 ?_
    refine lv_iload_n hx hb d_Wide_subtract_17 rfl (lv_at hl 2 rfl) ?_
    refine lv_isub hx hb d_Wide_subtract_18 ?_
    refine lv_istore (lv' := [(4, .int (((u.2.2.1 a0 (gIx x3)) - (u.2.2.1 a1 (gIx x3))) - x2)), (0, .ref (ρ a0)), (1, .ref (ρ a1)), (2, .int x2), (3, .int x3)]) hx hb d_Wide_subtract_19 hl (by decide) rfl (fun ls hl => ?_)
    refine lv_iload hx hb d_Wide_subtract_21 (lv_at hl 0 rfl) ?_
    refine lv_if_ge (tgt := 30) hx hb d_Wide_subtract_23 (by decide) (fun hc23 => ?_) (fun hc23 => ?_)
    · replace hM := gi_t hc23 hM
      refine lv_iconst (v := (0 : Int32)) hx hb d_Wide_subtract_30 (by decide) ?_
      exact t_Wide_subtract_b31 C hM hN hE0 ls H locs (lv_sub hl [1, 2, 4, 0] rfl) hP hS
    · replace hM := gi_f hc23 hM
      refine lv_iconst (v := (1 : Int32)) hx hb d_Wide_subtract_26 (by decide) ?_
      refine lv_goto (tgt := 31) hx hb d_Wide_subtract_27 (by decide) ?_
      exact t_Wide_subtract_b31 C hM hN hE0 ls H locs (lv_sub hl [1, 2, 4, 0] rfl) hP hS
noncomputable def M_Wide_subtract_L4 : (Nat × Nat × Int32 × Int32 × gSt) → Option ((Nat × Nat × Int32 × Int32 × gSt) ⊕ ((gSt))) := fun x => M_Wide_subtract_b4 x.1 x.2.1 x.2.2.1 x.2.2.2.1 x.2.2.2.2
theorem t_Wide_subtract_L4 (C : gX "TermDesk$Wide" prog_11_method_8_code 5 none 0 0 R cells slots cy D ρ A p s m args meth c) {a0 : Nat} {a1 : Nat} {x2 : Int32} {x3 : Int32} {u : gSt} {yy : (gSt)} (hL : gLp M_Wide_subtract_L4 (a0, a1, x2, x3, u) = some yy) (hE0 : (∀ y', yy = y' → gAt p l e R s m args below meth c Q H0 cells slots cy D ρ A 5 56 [] [] (y'))) : gAt p l e R s m args below meth c Q H0 cells slots cy D ρ A 5 4 [(0, .ref (ρ a0)), (1, .ref (ρ a1)), (2, .int x2), (3, .int x3)] [] u :=
  g_loop (f := M_Wide_subtract_L4) (P := fun x => gAt p l e R s m args below meth c Q H0 cells slots cy D ρ A 5 4 [(0, .ref (ρ x.1)), (1, .ref (ρ x.2.1)), (2, .int x.2.2.1), (3, .int x.2.2.2.1)] [] x.2.2.2.2) (E := fun yy => (∀ y', yy = y' → gAt p l e R s m args below meth c Q H0 cells slots cy D ρ A 5 56 [] [] (y'))) (fun x z hf hN hE => t_Wide_subtract_b4 C hf (fun a0' a1' x2' x3' u' h => hN (a0', a1', x2', x3', u') h) (fun u' h => (hE _ h) u' rfl)) hL hE0
noncomputable def M_Wide_subtract (a0 : Nat) (a1 : Nat) (u : gSt) : Option (gSt) :=
  (gLp M_Wide_subtract_L4 (a0, a1, (0 : Int32), (0 : Int32), u)).bind fun y4 =>
  some y4
set_option maxHeartbeats 4000000 in
set_option maxRecDepth 100000 in
theorem t_Wide_subtract (C : gX "TermDesk$Wide" prog_11_method_8_code 5 none 0 0 R cells slots cy D ρ A p s m args meth c) {a0 : Nat} {a1 : Nat} {u : gSt} {z : gSt} (hM : M_Wide_subtract a0 a1 u = some z) (hR : gRtV p l e R s m args below meth c Q H0 cells slots cy D ρ A prog_11_method_8_code z) : gAt p l e R s m args below meth c Q H0 cells slots cy D ρ A 5 0 [(0, .ref (ρ a0)), (1, .ref (ρ a1))] [] u := by
  intro ls H locs hl hP hS
  have hx := C.1
  have hb := C.2.1
  unfold M_Wide_subtract at hM
  refine lv_iconst (v := (0 : Int32)) hx hb d_Wide_subtract_0 (by decide) ?_
  refine lv_istore_n (lv' := [(2, .int (0 : Int32)), (0, .ref (ρ a0)), (1, .ref (ρ a1))]) hx hb d_Wide_subtract_1 rfl hl (by decide) rfl (fun ls hl => ?_)
  refine lv_iconst (v := (0 : Int32)) hx hb d_Wide_subtract_2 (by decide) ?_
  refine lv_istore_n (lv' := [(3, .int (0 : Int32)), (2, .int (0 : Int32)), (0, .ref (ρ a0)), (1, .ref (ρ a1))]) hx hb d_Wide_subtract_3 rfl hl (by decide) rfl (fun ls hl => ?_)
  obtain ⟨y4, hL4, hM⟩ := gb_some hM
  refine t_Wide_subtract_L4 C hL4 (fun y4_0 hy => ?_) ls H locs (lv_sub hl [2, 3, 1, 0] rfl) hP hS
  · subst hy
    intro ls H locs hl hP hS
    obtain rfl := Option.some.inj hM
    exact hR _ ls H locs d_Wide_subtract_56 hP hS
theorem c_Wide_subtract {l : Launch} {cy : Nat → ClassId} {D : va_G} {ρ : Nat → Nat} {A : Nat → Prop} (hD : gD ρ A) {a0 : Nat} {a1 : Nat} {u : gSt} {z : gSt} (hM : M_Wide_subtract a0 a1 u = some z) : gCtV l y_Wide_subtract prog_11_method_8_code 5 none 0 0 cy D ρ A [.ref (ρ a0), .ref (ρ a1)] u z :=
  g_met (by decide) hD (Nat.le_of_ble_eq_true rfl) (fun p e s m below meth c ls X hl hP => t_Wide_subtract X hM (fun pc ls H locs hd hP hS => g_vret X hP hS hd) ls _ [] hl hP va_S.rf)
end
section
variable {p : Program} {l : Launch} {e : Env} {R : Room} {s : State} {m : MethodId} {args : Array Value} {below : List Frame} {meth : Method} {c : Code} {Q : State → Prop} {H0 : Heap} {cells slots : Nat} {cy : Nat → ClassId} {D : va_G} {ρ : Nat → Nat} {A : Nat → Prop}
def y_Wide_isMultiple : MethodName := ⟨"TermDesk$Wide", "isMultiple", "([II)Z"⟩
theorem gi_Wide_isMultiple : gMs y_Wide_isMultiple prog_11_method_6_code 5 (some .boolean) 2 := ⟨(gWs_at 993 (by decide +kernel) (by decide +kernel)), (gWs_at 992 (by decide +kernel) (by decide +kernel)), (gWs_at 139 (by decide +kernel) (by decide +kernel)), ⟨by decide +kernel, by decide +kernel, by decide +kernel⟩⟩
theorem gm_Strip_58 : gMk "TermDesk$Strip" 58 y_Wide_isMultiple := Or.inr ⟨"TermDesk", gNs_at 991 (by decide +kernel) (by decide +kernel)⟩
theorem d_Wide_isMultiple_0 : decode prog_11_method_6_code 0 = .ok (.iload_n 1, 1) := by decide +kernel
theorem d_Wide_isMultiple_1 : decode prog_11_method_6_code 1 = .ok (.iconst 1, 1) := by decide +kernel
theorem d_Wide_isMultiple_2 : decode prog_11_method_6_code 2 = .ok (.if_icmp .ge 5, 3) := by decide +kernel
theorem d_Wide_isMultiple_5 : decode prog_11_method_6_code 5 = .ok (.iconst 0, 1) := by decide +kernel
theorem d_Wide_isMultiple_6 : decode prog_11_method_6_code 6 = .ok (.ireturn, 1) := by decide +kernel
theorem d_Wide_isMultiple_7 : decode prog_11_method_6_code 7 = .ok (.lconst 0, 1) := by decide +kernel
theorem d_Wide_isMultiple_8 : decode prog_11_method_6_code 8 = .ok (.lstore_n 2, 1) := by decide +kernel
theorem d_Wide_isMultiple_9 : decode prog_11_method_6_code 9 = .ok (.bipush 7, 2) := by decide +kernel
theorem d_Wide_isMultiple_11 : decode prog_11_method_6_code 11 = .ok (.istore 4, 2) := by decide +kernel
theorem d_Wide_isMultiple_13 : decode prog_11_method_6_code 13 = .ok (.iload 4, 2) := by decide +kernel
theorem d_Wide_isMultiple_15 : decode prog_11_method_6_code 15 = .ok (.ifCond .lt 24, 3) := by decide +kernel
theorem d_Wide_isMultiple_18 : decode prog_11_method_6_code 18 = .ok (.lload_n 2, 1) := by decide +kernel
theorem d_Wide_isMultiple_19 : decode prog_11_method_6_code 19 = .ok (.ldc2_w 21, 3) := by decide +kernel
theorem d_Wide_isMultiple_22 : decode prog_11_method_6_code 22 = .ok (.lmul, 1) := by decide +kernel
theorem d_Wide_isMultiple_23 : decode prog_11_method_6_code 23 = .ok (.aload_n 0, 1) := by decide +kernel
theorem d_Wide_isMultiple_24 : decode prog_11_method_6_code 24 = .ok (.iload 4, 2) := by decide +kernel
theorem d_Wide_isMultiple_26 : decode prog_11_method_6_code 26 = .ok (.iaload, 1) := by decide +kernel
theorem d_Wide_isMultiple_27 : decode prog_11_method_6_code 27 = .ok (.i2l, 1) := by decide +kernel
theorem d_Wide_isMultiple_28 : decode prog_11_method_6_code 28 = .ok (.ladd, 1) := by decide +kernel
theorem d_Wide_isMultiple_29 : decode prog_11_method_6_code 29 = .ok (.iload_n 1, 1) := by decide +kernel
theorem d_Wide_isMultiple_30 : decode prog_11_method_6_code 30 = .ok (.i2l, 1) := by decide +kernel
theorem d_Wide_isMultiple_31 : decode prog_11_method_6_code 31 = .ok (.lrem, 1) := by decide +kernel
theorem d_Wide_isMultiple_32 : decode prog_11_method_6_code 32 = .ok (.lstore_n 2, 1) := by decide +kernel
theorem d_Wide_isMultiple_33 : decode prog_11_method_6_code 33 = .ok (.iinc 4 (-1), 3) := by decide +kernel
theorem d_Wide_isMultiple_36 : decode prog_11_method_6_code 36 = .ok (.goto (-23), 3) := by decide +kernel
theorem d_Wide_isMultiple_39 : decode prog_11_method_6_code 39 = .ok (.lload_n 2, 1) := by decide +kernel
theorem d_Wide_isMultiple_40 : decode prog_11_method_6_code 40 = .ok (.lconst 0, 1) := by decide +kernel
theorem d_Wide_isMultiple_41 : decode prog_11_method_6_code 41 = .ok (.lcmp, 1) := by decide +kernel
theorem d_Wide_isMultiple_42 : decode prog_11_method_6_code 42 = .ok (.ifCond .ne 7, 3) := by decide +kernel
theorem d_Wide_isMultiple_45 : decode prog_11_method_6_code 45 = .ok (.iconst 1, 1) := by decide +kernel
theorem d_Wide_isMultiple_46 : decode prog_11_method_6_code 46 = .ok (.goto 4, 3) := by decide +kernel
theorem d_Wide_isMultiple_49 : decode prog_11_method_6_code 49 = .ok (.iconst 0, 1) := by decide +kernel
theorem d_Wide_isMultiple_50 : decode prog_11_method_6_code 50 = .ok (.ireturn, 1) := by decide +kernel
noncomputable def M_Wide_isMultiple_b13 (a0 : Nat) (x1 : Int32) (y2 : Int64) (x4 : Int32) (u : gSt) : Option ((Nat × Int32 × Int64 × Int32 × gSt) ⊕ ((Int64 × gSt))) :=
  if x4 < (0 : Int32) then
    (some (.inr (y2, u)))
  else
    (gc (gK a0 == 22) <| gc (gIn x4 (gLen a0)) <| gc (!(x1.toInt64 == 0)) <| some (.inl (a0, x1, ((y2 * (1000000000 : Int64)) + ((u.2.2.1 a0 (gIx x4)).toInt64)) - ((y2 * (1000000000 : Int64)) + ((u.2.2.1 a0 (gIx x4)).toInt64)) / x1.toInt64 * x1.toInt64, x4 + (-1 : Int32), u)))
set_option maxHeartbeats 4000000 in
set_option maxRecDepth 100000 in
theorem t_Wide_isMultiple_b13 (C : gX "TermDesk$Wide" prog_11_method_6_code 5 (some .boolean) 0 0 R cells slots cy D ρ A p s m args meth c) {a0 : Nat} {x1 : Int32} {y2 : Int64} {x4 : Int32} {u : gSt} {z : (Nat × Int32 × Int64 × Int32 × gSt) ⊕ ((Int64 × gSt))} (hM : M_Wide_isMultiple_b13 a0 x1 y2 x4 u = some z) (hN : ∀ a0' x1' y2' x4' u', z = .inl (a0', x1', y2', x4', u') → gAt p l e R s m args below meth c Q H0 cells slots cy D ρ A 5 13 [(0, .ref (ρ (a0'))), (1, .int (x1')), (2, .long (y2')), (4, .int (x4'))] [] (u')) (hE0 : ∀ y2' u', z = .inr (y2', u') → gAt p l e R s m args below meth c Q H0 cells slots cy D ρ A 5 39 [(2, .long (y2'))] [] (u')) : gAt p l e R s m args below meth c Q H0 cells slots cy D ρ A 5 13 [(0, .ref (ρ a0)), (1, .int x1), (2, .long y2), (4, .int x4)] [] u := by
  intro ls H locs hl hP hS
  have hx := C.1
  have hb := C.2.1
  unfold M_Wide_isMultiple_b13 at hM
  refine lv_iload hx hb d_Wide_isMultiple_13 (lv_at hl 3 rfl) ?_
  refine lv_if_lt (tgt := 39) hx hb d_Wide_isMultiple_15 (by decide) (fun hc15 => ?_) (fun hc15 => ?_)
  · replace hM := gi_t hc15 hM
    exact hE0 _ _ (Option.some.inj hM).symm ls H locs (lv_sub hl [2] rfl) hP hS
  · replace hM := gi_f hc15 hM
    refine lv_lload_n hx hb d_Wide_isMultiple_18 rfl (lv_at hl 2 rfl) ?_
    refine lv_ldc2 (v := 1000000000) hx hb C.2.2.2.2.1 (C.2.2.2.2.2.1 _ (gWs_at 886 (by decide +kernel) (by decide +kernel))) d_Wide_isMultiple_19 ?_
    refine lv_lmul hx hb d_Wide_isMultiple_22 ?_
    refine lv_aload_n hx hb d_Wide_isMultiple_23 rfl (lv_at hl 0 rfl) ?_
    refine lv_iload hx hb d_Wide_isMultiple_24 (lv_at hl 3 rfl) ?_
    obtain ⟨h26, hM⟩ := gc_some hM
    obtain ⟨hi26, hM⟩ := gc_some hM
    refine g_iald C hP (eq_of_beq h26) hi26 d_Wide_isMultiple_26 ?_
    refine lv_i2l (v := (u.2.2.1 a0 (gIx x4)).toInt64) hx hb d_Wide_isMultiple_27 rfl ?_
    refine lv_ladd hx hb d_Wide_isMultiple_28 ?_
    refine lv_iload_n hx hb d_Wide_isMultiple_29 rfl (lv_at hl 1 rfl) ?_
    refine lv_i2l (v := x1.toInt64) hx hb d_Wide_isMultiple_30 rfl ?_
    obtain ⟨h31, hM⟩ := gc_some hM
    refine lv_lrem hx hb d_Wide_isMultiple_31 (gne0L h31) ?_
    refine lv_lstore_n (lv' := [(2, .long (((y2 * (1000000000 : Int64)) + ((u.2.2.1 a0 (gIx x4)).toInt64)) - ((y2 * (1000000000 : Int64)) + ((u.2.2.1 a0 (gIx x4)).toInt64)) / x1.toInt64 * x1.toInt64)), (0, .ref (ρ a0)), (1, .int x1), (4, .int x4)]) hx hb d_Wide_isMultiple_32 rfl hl (by decide) rfl (fun ls hl => ?_)
    refine lv_iinc (k := 3) (v := x4 + (-1 : Int32)) (lv' := [(4, .int (x4 + (-1 : Int32))), (2, .long (((y2 * (1000000000 : Int64)) + ((u.2.2.1 a0 (gIx x4)).toInt64)) - ((y2 * (1000000000 : Int64)) + ((u.2.2.1 a0 (gIx x4)).toInt64)) / x1.toInt64 * x1.toInt64)), (0, .ref (ρ a0)), (1, .int x1)]) hx hb d_Wide_isMultiple_33 hl rfl (congrArg (fun z => x4 + z) (by decide)) (by decide) rfl (fun ls hl => ?_)
    refine lv_goto (tgt := 13) hx hb d_Wide_isMultiple_36 (by decide) ?_
    exact hN _ _ _ _ _ (Option.some.inj hM).symm ls H locs (lv_sub hl [2, 3, 1, 0] rfl) hP hS
noncomputable def M_Wide_isMultiple_L13 : (Nat × Int32 × Int64 × Int32 × gSt) → Option ((Nat × Int32 × Int64 × Int32 × gSt) ⊕ ((Int64 × gSt))) := fun x => M_Wide_isMultiple_b13 x.1 x.2.1 x.2.2.1 x.2.2.2.1 x.2.2.2.2
theorem t_Wide_isMultiple_L13 (C : gX "TermDesk$Wide" prog_11_method_6_code 5 (some .boolean) 0 0 R cells slots cy D ρ A p s m args meth c) {a0 : Nat} {x1 : Int32} {y2 : Int64} {x4 : Int32} {u : gSt} {yy : (Int64 × gSt)} (hL : gLp M_Wide_isMultiple_L13 (a0, x1, y2, x4, u) = some yy) (hE0 : (∀ y', yy = y' → gAt p l e R s m args below meth c Q H0 cells slots cy D ρ A 5 39 [(2, .long (y'.1))] [] (y'.2))) : gAt p l e R s m args below meth c Q H0 cells slots cy D ρ A 5 13 [(0, .ref (ρ a0)), (1, .int x1), (2, .long y2), (4, .int x4)] [] u :=
  g_loop (f := M_Wide_isMultiple_L13) (P := fun x => gAt p l e R s m args below meth c Q H0 cells slots cy D ρ A 5 13 [(0, .ref (ρ x.1)), (1, .int x.2.1), (2, .long x.2.2.1), (4, .int x.2.2.2.1)] [] x.2.2.2.2) (E := fun yy => (∀ y', yy = y' → gAt p l e R s m args below meth c Q H0 cells slots cy D ρ A 5 39 [(2, .long (y'.1))] [] (y'.2))) (fun x z hf hN hE => t_Wide_isMultiple_b13 C hf (fun a0' x1' y2' x4' u' h => hN (a0', x1', y2', x4', u') h) (fun y2' u' h => (hE _ h) (y2', u') rfl)) hL hE0
noncomputable def M_Wide_isMultiple_b50 (s0 : Int32) (u : gSt) : Option ((Int32 × gSt)) :=
  gc (gZ s0) <| some (s0, u)
set_option maxHeartbeats 4000000 in
set_option maxRecDepth 100000 in
theorem t_Wide_isMultiple_b50 (C : gX "TermDesk$Wide" prog_11_method_6_code 5 (some .boolean) 0 0 R cells slots cy D ρ A p s m args meth c) {s0 : Int32} {u : gSt} {z : (Int32 × gSt)} (hM : M_Wide_isMultiple_b50 s0 u = some z) (hR : gRtZ p l e R s m args below meth c Q H0 cells slots cy D ρ A prog_11_method_6_code z.1 z.2) : gAt p l e R s m args below meth c Q H0 cells slots cy D ρ A 5 50 [] [.int s0] u := by
  intro ls H locs hl hP hS
  have hx := C.1
  have hb := C.2.1
  unfold M_Wide_isMultiple_b50 at hM
  obtain ⟨hz50, hM⟩ := gc_some hM
  obtain rfl := Option.some.inj hM
  exact hR _ ls H locs hz50 d_Wide_isMultiple_50 hP hS
noncomputable def M_Wide_isMultiple (a0 : Nat) (x1 : Int32) (u : gSt) : Option ((Int32 × gSt)) :=
  if (1 : Int32) ≤ x1 then
    ((gLp M_Wide_isMultiple_L13 (a0, x1, (0 : Int64), (7 : Int32), u)).bind fun y13 =>
    if (lg_cmp y13.1 (0 : Int64)) = (0 : Int32) then
      (M_Wide_isMultiple_b50 (1 : Int32) y13.2)
    else
      (M_Wide_isMultiple_b50 (0 : Int32) y13.2))
  else
    (some ((0 : Int32), u))
set_option maxHeartbeats 4000000 in
set_option maxRecDepth 100000 in
theorem t_Wide_isMultiple (C : gX "TermDesk$Wide" prog_11_method_6_code 5 (some .boolean) 0 0 R cells slots cy D ρ A p s m args meth c) {a0 : Nat} {x1 : Int32} {u : gSt} {z : (Int32 × gSt)} (hM : M_Wide_isMultiple a0 x1 u = some z) (hR : gRtZ p l e R s m args below meth c Q H0 cells slots cy D ρ A prog_11_method_6_code z.1 z.2) : gAt p l e R s m args below meth c Q H0 cells slots cy D ρ A 5 0 [(0, .ref (ρ a0)), (1, .int x1)] [] u := by
  intro ls H locs hl hP hS
  have hx := C.1
  have hb := C.2.1
  unfold M_Wide_isMultiple at hM
  refine lv_iload_n hx hb d_Wide_isMultiple_0 rfl (lv_at hl 1 rfl) ?_
  refine lv_iconst (v := (1 : Int32)) hx hb d_Wide_isMultiple_1 (by decide) ?_
  refine lv_icmp_ge (tgt := 7) hx hb d_Wide_isMultiple_2 (by decide) (fun hc2 => ?_) (fun hc2 => ?_)
  · replace hM := gi_t hc2 hM
    refine lv_lconst (v := 0) hx hb d_Wide_isMultiple_7 (by decide) ?_
    refine lv_lstore_n (lv' := [(2, .long (0 : Int64)), (0, .ref (ρ a0)), (1, .int x1)]) hx hb d_Wide_isMultiple_8 rfl hl (by decide) rfl (fun ls hl => ?_)
    refine lv_bipush (v := (7 : Int32)) hx hb d_Wide_isMultiple_9 (by decide) ?_
    refine lv_istore (lv' := [(4, .int (7 : Int32)), (2, .long (0 : Int64)), (0, .ref (ρ a0)), (1, .int x1)]) hx hb d_Wide_isMultiple_11 hl (by decide) rfl (fun ls hl => ?_)
    obtain ⟨y13, hL13, hM⟩ := gb_some hM
    refine t_Wide_isMultiple_L13 C hL13 (fun y13_0 hy => ?_) ls H locs (lv_sub hl [2, 3, 1, 0] rfl) hP hS
    · subst hy
      intro ls H locs hl hP hS
      refine lv_lload_n hx hb d_Wide_isMultiple_39 rfl (lv_at hl 0 rfl) ?_
      refine lv_lconst (v := 0) hx hb d_Wide_isMultiple_40 (by decide) ?_
      refine W.lcmp hx hb d_Wide_isMultiple_41 ?_
      refine lv_if_ne (tgt := 49) hx hb d_Wide_isMultiple_42 (by decide) (fun hc42 => ?_) (fun hc42 => ?_)
      · replace hM := gi_f hc42 hM
        refine lv_iconst (v := (0 : Int32)) hx hb d_Wide_isMultiple_49 (by decide) ?_
        exact t_Wide_isMultiple_b50 C hM hR ls H locs (lv_sub hl [] rfl) hP hS
      · replace hM := gi_t hc42 hM
        refine lv_iconst (v := (1 : Int32)) hx hb d_Wide_isMultiple_45 (by decide) ?_
        refine lv_goto (tgt := 50) hx hb d_Wide_isMultiple_46 (by decide) ?_
        exact t_Wide_isMultiple_b50 C hM hR ls H locs (lv_sub hl [] rfl) hP hS
  · replace hM := gi_f hc2 hM
    refine lv_iconst (v := (0 : Int32)) hx hb d_Wide_isMultiple_5 (by decide) ?_
    obtain rfl := Option.some.inj hM
    exact hR _ ls H locs rfl d_Wide_isMultiple_6 hP hS
theorem c_Wide_isMultiple {l : Launch} {cy : Nat → ClassId} {D : va_G} {ρ : Nat → Nat} {A : Nat → Prop} (hD : gD ρ A) {a0 : Nat} {x1 : Int32} {u : gSt} {z : (Int32 × gSt)} (hM : M_Wide_isMultiple a0 x1 u = some z) : gCtI l y_Wide_isMultiple prog_11_method_6_code 5 (some .boolean) 0 0 cy D ρ A [.ref (ρ a0), .int x1] u z.1 z.2 :=
  g_met (by decide) hD (Nat.le_of_ble_eq_true rfl) (fun p e s m below meth c ls X hl hP => t_Wide_isMultiple X hM (fun pc ls H locs hz hd hP hS => g_zret X hP hS hz hd) ls _ [] hl hP va_S.rf)
end
