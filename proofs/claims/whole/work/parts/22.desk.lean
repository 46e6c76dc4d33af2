/-! printed by wip/whole/gen/gen.py -/
section
variable {p : Program} {l : Launch} {e : Env} {R : Room} {s : State} {m : MethodId} {args : Array Value} {below : List Frame} {meth : Method} {c : Code} {Q : State → Prop} {H0 : Heap} {cells slots : Nat} {cy : Nat → ClassId} {D : va_G} {ρ : Nat → Nat} {A : Nat → Prop}
def y_Desk_feed : MethodName := ⟨"TermDesk", "feed", "(IIIII)I"⟩
theorem gi_Desk_feed : gMi y_Desk_feed prog_1_method_2_code 6 (some .int) 5 0 := ⟨(gWs_at 623 (by decide +kernel) (by decide +kernel)), (gWs_at 621 (by decide +kernel) (by decide +kernel)), (gWs_at 622 (by decide +kernel) (by decide +kernel)), (gWs_at 117 (by decide +kernel) (by decide +kernel)), ⟨by decide +kernel, by decide +kernel, by decide +kernel⟩, _, _, rfl⟩
theorem gm_Law_7 : gMk "TermDeskLaw" 7 y_Desk_feed := Or.inl (gWs_at 620 (by decide +kernel) (by decide +kernel))
theorem d_Desk_feed_0 : decode prog_1_method_2_code 0 = .ok (.aload_n 0, 1) := by decide +kernel
theorem d_Desk_feed_1 : decode prog_1_method_2_code 1 = .ok (.getfield 20, 3) := by decide +kernel
theorem d_Desk_feed_4 : decode prog_1_method_2_code 4 = .ok (.getfield 51, 3) := by decide +kernel
theorem d_Desk_feed_7 : decode prog_1_method_2_code 7 = .ok (.bipush 20, 2) := by decide +kernel
theorem d_Desk_feed_9 : decode prog_1_method_2_code 9 = .ok (.iadd, 1) := by decide +kernel
theorem d_Desk_feed_10 : decode prog_1_method_2_code 10 = .ok (.ldc 56, 2) := by decide +kernel
theorem d_Desk_feed_12 : decode prog_1_method_2_code 12 = .ok (.if_icmp .le 13, 3) := by decide +kernel
theorem d_Desk_feed_15 : decode prog_1_method_2_code 15 = .ok (.new 57, 3) := by decide +kernel
theorem d_Desk_feed_25 : decode prog_1_method_2_code 25 = .ok (.aload_n 0, 1) := by decide +kernel
theorem d_Desk_feed_26 : decode prog_1_method_2_code 26 = .ok (.getfield 20, 3) := by decide +kernel
theorem d_Desk_feed_29 : decode prog_1_method_2_code 29 = .ok (.iload_n 1, 1) := by decide +kernel
theorem d_Desk_feed_30 : decode prog_1_method_2_code 30 = .ok (.invokevirtual 64, 3) := by decide +kernel
theorem d_Desk_feed_33 : decode prog_1_method_2_code 33 = .ok (.aload_n 0, 1) := by decide +kernel
theorem d_Desk_feed_34 : decode prog_1_method_2_code 34 = .ok (.getfield 20, 3) := by decide +kernel
theorem d_Desk_feed_37 : decode prog_1_method_2_code 37 = .ok (.iload_n 2, 1) := by decide +kernel
theorem d_Desk_feed_38 : decode prog_1_method_2_code 38 = .ok (.invokevirtual 64, 3) := by decide +kernel
theorem d_Desk_feed_41 : decode prog_1_method_2_code 41 = .ok (.aload_n 0, 1) := by decide +kernel
theorem d_Desk_feed_42 : decode prog_1_method_2_code 42 = .ok (.getfield 20, 3) := by decide +kernel
theorem d_Desk_feed_45 : decode prog_1_method_2_code 45 = .ok (.iload_n 3, 1) := by decide +kernel
theorem d_Desk_feed_46 : decode prog_1_method_2_code 46 = .ok (.invokevirtual 64, 3) := by decide +kernel
theorem d_Desk_feed_49 : decode prog_1_method_2_code 49 = .ok (.aload_n 0, 1) := by decide +kernel
theorem d_Desk_feed_50 : decode prog_1_method_2_code 50 = .ok (.getfield 20, 3) := by decide +kernel
theorem d_Desk_feed_53 : decode prog_1_method_2_code 53 = .ok (.iload 4, 2) := by decide +kernel
theorem d_Desk_feed_55 : decode prog_1_method_2_code 55 = .ok (.invokevirtual 64, 3) := by decide +kernel
theorem d_Desk_feed_58 : decode prog_1_method_2_code 58 = .ok (.aload_n 0, 1) := by decide +kernel
theorem d_Desk_feed_59 : decode prog_1_method_2_code 59 = .ok (.getfield 20, 3) := by decide +kernel
theorem d_Desk_feed_62 : decode prog_1_method_2_code 62 = .ok (.iload 5, 2) := by decide +kernel
theorem d_Desk_feed_64 : decode prog_1_method_2_code 64 = .ok (.invokevirtual 64, 3) := by decide +kernel
theorem d_Desk_feed_67 : decode prog_1_method_2_code 67 = .ok (.aload_n 0, 1) := by decide +kernel
theorem d_Desk_feed_68 : decode prog_1_method_2_code 68 = .ok (.getfield 20, 3) := by decide +kernel
theorem d_Desk_feed_71 : decode prog_1_method_2_code 71 = .ok (.getfield 51, 3) := by decide +kernel
theorem d_Desk_feed_74 : decode prog_1_method_2_code 74 = .ok (.ireturn, 1) := by decide +kernel
noncomputable def M_Desk_feed (x1 : Int32) (x2 : Int32) (x3 : Int32) (x4 : Int32) (x5 : Int32) (u : gSt) : Option ((Int32 × gSt)) :=
  if ((u.1 2 1) + (20 : Int32)) ≤ (40000 : Int32) then
    ((M_Text_addFour x1 u).bind fun q30 =>
    (M_Text_addFour x2 q30).bind fun q38 =>
    (M_Text_addFour x3 q38).bind fun q46 =>
    (M_Text_addFour x4 q46).bind fun q55 =>
    (M_Text_addFour x5 q55).bind fun q64 =>
    some (q64.1 2 1, q64))
  else
    (none)
set_option maxHeartbeats 4000000 in
set_option maxRecDepth 100000 in
theorem t_Desk_feed (C : gX "TermDesk" prog_1_method_2_code 6 (some .int) 1 22 R cells slots cy D ρ A p s m args meth c) {x1 : Int32} {x2 : Int32} {x3 : Int32} {x4 : Int32} {x5 : Int32} {u : gSt} {z : (Int32 × gSt)} (hM : M_Desk_feed x1 x2 x3 x4 x5 u = some z) (hR : gRtI p l e R s m args below meth c Q H0 cells slots cy D ρ A prog_1_method_2_code z.1 z.2) : gAt p l e R s m args below meth c Q H0 cells slots cy D ρ A 6 0 [(0, .ref (ρ 0)), (1, .int x1), (2, .int x2), (3, .int x3), (4, .int x4), (5, .int x5)] [] u := by
  intro ls H locs hl hP hS
  have hx := C.1
  have hb := C.2.1
  unfold M_Desk_feed at hM
  refine lv_aload_n hx hb d_Desk_feed_0 rfl (lv_at hl 0 rfl) ?_
  refine g_getR (b := 2) C hP gl_Desk_20 rfl rfl rfl d_Desk_feed_1 ?_
  refine g_getI C hP gl_Desk_51 rfl rfl d_Desk_feed_4 ?_
  refine lv_bipush (v := (20 : Int32)) hx hb d_Desk_feed_7 (by decide) ?_
  refine lv_iadd hx hb d_Desk_feed_9 ?_
  refine lv_ldc (v := (40000 : Int32)) hx hb C.2.2.2.2.1 (C.2.2.2.2.2.1 _ (gWs_at 624 (by decide +kernel) (by decide +kernel))) d_Desk_feed_10 ?_
  refine lv_icmp_le (tgt := 25) hx hb d_Desk_feed_12 (by decide) (fun hc12 => ?_) (fun hc12 => ?_)
  · replace hM := gi_t hc12 hM
    refine lv_aload_n hx hb d_Desk_feed_25 rfl (lv_at hl 0 rfl) ?_
    refine g_getR (b := 2) C hP gl_Desk_20 rfl rfl rfl d_Desk_feed_26 ?_
    refine lv_iload_n hx hb d_Desk_feed_29 rfl (lv_at hl 1 rfl) ?_
    obtain ⟨q30, hq30, hM⟩ := gb_some hM
    refine g_backV (g_runV (As := [.int x1]) C hP (c_Text_addFour C.2.2.2.2.2.2.2.2.1 hq30) gi_Text_addFour gm_Desk_64 rfl rfl (by decide) (by decide) hl.1 rfl (Nat.le_of_ble_eq_true rfl) d_Desk_feed_30) hS (fun H locs hP hS => ?_)
    refine lv_aload_n hx hb d_Desk_feed_33 rfl (lv_at hl 0 rfl) ?_
    refine g_getR (b := 2) C hP gl_Desk_20 rfl rfl rfl d_Desk_feed_34 ?_
    refine lv_iload_n hx hb d_Desk_feed_37 rfl (lv_at hl 2 rfl) ?_
    obtain ⟨q38, hq38, hM⟩ := gb_some hM
    refine g_backV (g_runV (As := [.int x2]) C hP (c_Text_addFour C.2.2.2.2.2.2.2.2.1 hq38) gi_Text_addFour gm_Desk_64 rfl rfl (by decide) (by decide) hl.1 rfl (Nat.le_of_ble_eq_true rfl) d_Desk_feed_38) hS (fun H locs hP hS => ?_)
    refine lv_aload_n hx hb d_Desk_feed_41 rfl (lv_at hl 0 rfl) ?_
    refine g_getR (b := 2) C hP gl_Desk_20 rfl rfl rfl d_Desk_feed_42 ?_
    refine lv_iload_n hx hb d_Desk_feed_45 rfl (lv_at hl 3 rfl) ?_
    obtain ⟨q46, hq46, hM⟩ := gb_some hM
    refine g_backV (g_runV (As := [.int x3]) C hP (c_Text_addFour C.2.2.2.2.2.2.2.2.1 hq46) gi_Text_addFour gm_Desk_64 rfl rfl (by decide) (by decide) hl.1 rfl (Nat.le_of_ble_eq_true rfl) d_Desk_feed_46) hS (fun H locs hP hS => ?_)
    refine lv_aload_n hx hb d_Desk_feed_49 rfl (lv_at hl 0 rfl) ?_
    refine g_getR (b := 2) C hP gl_Desk_20 rfl rfl rfl d_Desk_feed_50 ?_
    refine lv_iload hx hb d_Desk_feed_53 (lv_at hl 4 rfl) ?_
    obtain ⟨q55, hq55, hM⟩ := gb_some hM
    refine g_backV (g_runV (As := [.int x4]) C hP (c_Text_addFour C.2.2.2.2.2.2.2.2.1 hq55) gi_Text_addFour gm_Desk_64 rfl rfl (by decide) (by decide) hl.1 rfl (Nat.le_of_ble_eq_true rfl) d_Desk_feed_55) hS (fun H locs hP hS => ?_)
    refine lv_aload_n hx hb d_Desk_feed_58 rfl (lv_at hl 0 rfl) ?_
    refine g_getR (b := 2) C hP gl_Desk_20 rfl rfl rfl d_Desk_feed_59 ?_
    refine lv_iload hx hb d_Desk_feed_62 (lv_at hl 5 rfl) ?_
    obtain ⟨q64, hq64, hM⟩ := gb_some hM
    refine g_backV (g_runV (As := [.int x5]) C hP (c_Text_addFour C.2.2.2.2.2.2.2.2.1 hq64) gi_Text_addFour gm_Desk_64 rfl rfl (by decide) (by decide) hl.1 rfl (Nat.le_of_ble_eq_true rfl) d_Desk_feed_64) hS (fun H locs hP hS => ?_)
    refine lv_aload_n hx hb d_Desk_feed_67 rfl (lv_at hl 0 rfl) ?_
    refine g_getR (b := 2) C hP gl_Desk_20 rfl rfl rfl d_Desk_feed_68 ?_
    refine g_getI C hP gl_Desk_51 rfl rfl d_Desk_feed_71 ?_
    obtain rfl := Option.some.inj hM
    exact hR _ ls H locs d_Desk_feed_74 hP hS
  · replace hM := gi_f hc12 hM
    cases hM
theorem c_Desk_feed {l : Launch} {cy : Nat → ClassId} {D : va_G} {ρ : Nat → Nat} {A : Nat → Prop} (hD : gD ρ A) {x1 : Int32} {x2 : Int32} {x3 : Int32} {x4 : Int32} {x5 : Int32} {u : gSt} {z : (Int32 × gSt)} (hM : M_Desk_feed x1 x2 x3 x4 x5 u = some z) : gCtI l y_Desk_feed prog_1_method_2_code 6 (some .int) 1 22 cy D ρ A [.ref (ρ 0), .int x1, .int x2, .int x3, .int x4, .int x5] u z.1 z.2 :=
  g_met (by decide) hD (Nat.le_of_ble_eq_true rfl) (fun p e s m below meth c ls X hl hP => t_Desk_feed X hM (fun pc ls H locs hd hP hS => g_iret X hP hS hd) ls _ [] hl hP va_S.rf)
end
section
variable {p : Program} {l : Launch} {e : Env} {R : Room} {s : State} {m : MethodId} {args : Array Value} {below : List Frame} {meth : Method} {c : Code} {Q : State → Prop} {H0 : Heap} {cells slots : Nat} {cy : Nat → ClassId} {D : va_G} {ρ : Nat → Nat} {A : Nat → Prop}
def y_Desk_trim : MethodName := ⟨"TermDesk", "trim", "(I)I"⟩
theorem gi_Desk_trim : gMi y_Desk_trim prog_1_method_3_code 2 (some .int) 1 0 := ⟨(gWs_at 703 (by decide +kernel) (by decide +kernel)), (gWs_at 701 (by decide +kernel) (by decide +kernel)), (gWs_at 702 (by decide +kernel) (by decide +kernel)), (gWs_at 117 (by decide +kernel) (by decide +kernel)), ⟨by decide +kernel, by decide +kernel, by decide +kernel⟩, _, _, rfl⟩
theorem gm_Law_15 : gMk "TermDeskLaw" 15 y_Desk_trim := Or.inl (gWs_at 700 (by decide +kernel) (by decide +kernel))
theorem d_Desk_trim_0 : decode prog_1_method_3_code 0 = .ok (.iload_n 1, 1) := by decide +kernel
theorem d_Desk_trim_1 : decode prog_1_method_3_code 1 = .ok (.ifCond .lt 20, 3) := by decide +kernel
theorem d_Desk_trim_4 : decode prog_1_method_3_code 4 = .ok (.iload_n 1, 1) := by decide +kernel
theorem d_Desk_trim_5 : decode prog_1_method_3_code 5 = .ok (.bipush 20, 2) := by decide +kernel
theorem d_Desk_trim_7 : decode prog_1_method_3_code 7 = .ok (.if_icmp .gt 14, 3) := by decide +kernel
theorem d_Desk_trim_10 : decode prog_1_method_3_code 10 = .ok (.iload_n 1, 1) := by decide +kernel
theorem d_Desk_trim_11 : decode prog_1_method_3_code 11 = .ok (.aload_n 0, 1) := by decide +kernel
theorem d_Desk_trim_12 : decode prog_1_method_3_code 12 = .ok (.getfield 20, 3) := by decide +kernel
theorem d_Desk_trim_15 : decode prog_1_method_3_code 15 = .ok (.getfield 51, 3) := by decide +kernel
theorem d_Desk_trim_18 : decode prog_1_method_3_code 18 = .ok (.if_icmp .le 13, 3) := by decide +kernel
theorem d_Desk_trim_21 : decode prog_1_method_3_code 21 = .ok (.new 68, 3) := by decide +kernel
theorem d_Desk_trim_31 : decode prog_1_method_3_code 31 = .ok (.aload_n 0, 1) := by decide +kernel
theorem d_Desk_trim_32 : decode prog_1_method_3_code 32 = .ok (.getfield 20, 3) := by decide +kernel
theorem d_Desk_trim_35 : decode prog_1_method_3_code 35 = .ok (.dup, 1) := by decide +kernel
theorem d_Desk_trim_36 : decode prog_1_method_3_code 36 = .ok (.getfield 51, 3) := by decide +kernel
theorem d_Desk_trim_39 : decode prog_1_method_3_code 39 = .ok (.iload_n 1, 1) := by decide +kernel
theorem d_Desk_trim_40 : decode prog_1_method_3_code 40 = .ok (.isub, 1) := by decide +kernel
theorem d_Desk_trim_41 : decode prog_1_method_3_code 41 = .ok (.putfield 51, 3) := by decide +kernel
theorem d_Desk_trim_44 : decode prog_1_method_3_code 44 = .ok (.aload_n 0, 1) := by decide +kernel
theorem d_Desk_trim_45 : decode prog_1_method_3_code 45 = .ok (.getfield 20, 3) := by decide +kernel
theorem d_Desk_trim_48 : decode prog_1_method_3_code 48 = .ok (.getfield 51, 3) := by decide +kernel
theorem d_Desk_trim_51 : decode prog_1_method_3_code 51 = .ok (.ireturn, 1) := by decide +kernel
noncomputable def M_Desk_trim_b21 (u : gSt) : Option ((Int32 × gSt)) :=
  none
set_option maxHeartbeats 4000000 in
set_option maxRecDepth 100000 in
theorem t_Desk_trim_b21 (C : gX "TermDesk" prog_1_method_3_code 2 (some .int) 0 0 R cells slots cy D ρ A p s m args meth c) {u : gSt} {z : (Int32 × gSt)} (hM : M_Desk_trim_b21 u = some z) (hR : gRtI p l e R s m args below meth c Q H0 cells slots cy D ρ A prog_1_method_3_code z.1 z.2) : gAt p l e R s m args below meth c Q H0 cells slots cy D ρ A 2 21 [] [] u := by
  intro ls H locs hl hP hS
  have hx := C.1
  have hb := C.2.1
  unfold M_Desk_trim_b21 at hM
  cases hM
noncomputable def M_Desk_trim (x1 : Int32) (u : gSt) : Option ((Int32 × gSt)) :=
  if x1 < (0 : Int32) then
    (M_Desk_trim_b21 u)
  else
    (if (20 : Int32) < x1 then
      (M_Desk_trim_b21 u)
    else
      (if x1 ≤ (u.1 2 1) then
        ((some (gsF u 2 1 ((u.1 2 1) - x1))).bind fun u41 =>
        some (u41.1 2 1, u41))
      else
        (M_Desk_trim_b21 u)))
set_option maxHeartbeats 4000000 in
set_option maxRecDepth 100000 in
theorem t_Desk_trim (C : gX "TermDesk" prog_1_method_3_code 2 (some .int) 0 0 R cells slots cy D ρ A p s m args meth c) {x1 : Int32} {u : gSt} {z : (Int32 × gSt)} (hM : M_Desk_trim x1 u = some z) (hR : gRtI p l e R s m args below meth c Q H0 cells slots cy D ρ A prog_1_method_3_code z.1 z.2) : gAt p l e R s m args below meth c Q H0 cells slots cy D ρ A 2 0 [(0, .ref (ρ 0)), (1, .int x1)] [] u := by
  intro ls H locs hl hP hS
  have hx := C.1
  have hb := C.2.1
  unfold M_Desk_trim at hM
  refine lv_iload_n hx hb d_Desk_trim_0 rfl (lv_at hl 1 rfl) ?_
  refine lv_if_lt (tgt := 21) hx hb d_Desk_trim_1 (by decide) (fun hc1 => ?_) (fun hc1 => ?_)
  · replace hM := gi_t hc1 hM
    exact t_Desk_trim_b21 C hM hR ls H locs (lv_sub hl [] rfl) hP hS
  · replace hM := gi_f hc1 hM
    refine lv_iload_n hx hb d_Desk_trim_4 rfl (lv_at hl 1 rfl) ?_
    refine lv_bipush (v := (20 : Int32)) hx hb d_Desk_trim_5 (by decide) ?_
    refine lv_icmp_gt (tgt := 21) hx hb d_Desk_trim_7 (by decide) (fun hc7 => ?_) (fun hc7 => ?_)
    · replace hM := gi_t hc7 hM
      exact t_Desk_trim_b21 C hM hR ls H locs (lv_sub hl [] rfl) hP hS
    · replace hM := gi_f hc7 hM
      refine lv_iload_n hx hb d_Desk_trim_10 rfl (lv_at hl 1 rfl) ?_
      refine lv_aload_n hx hb d_Desk_trim_11 rfl (lv_at hl 0 rfl) ?_
      refine g_getR (b := 2) C hP gl_Desk_20 rfl rfl rfl d_Desk_trim_12 ?_
      refine g_getI C hP gl_Desk_51 rfl rfl d_Desk_trim_15 ?_
      refine lv_icmp_le (tgt := 31) hx hb d_Desk_trim_18 (by decide) (fun hc18 => ?_) (fun hc18 => ?_)
      · replace hM := gi_t hc18 hM
        refine lv_aload_n hx hb d_Desk_trim_31 rfl (lv_at hl 0 rfl) ?_
        refine g_getR (b := 2) C hP gl_Desk_20 rfl rfl rfl d_Desk_trim_32 ?_
        refine lv_dup hx hb d_Desk_trim_35 rfl ?_
        refine g_getI C hP gl_Desk_51 rfl rfl d_Desk_trim_36 ?_
        refine lv_iload_n hx hb d_Desk_trim_39 rfl (lv_at hl 1 rfl) ?_
        refine lv_isub hx hb d_Desk_trim_40 ?_
        obtain ⟨u41, e41, hM⟩ := gb_some hM
        refine g_putI C hP hS gl_Desk_51 rfl rfl gq_2_1 d_Desk_trim_41 (fun H locs hP hS => ?_)
        rw [Option.some.inj e41] at hP
        refine lv_aload_n hx hb d_Desk_trim_44 rfl (lv_at hl 0 rfl) ?_
        refine g_getR (b := 2) C hP gl_Desk_20 rfl rfl rfl d_Desk_trim_45 ?_
        refine g_getI C hP gl_Desk_51 rfl rfl d_Desk_trim_48 ?_
        obtain rfl := Option.some.inj hM
        exact hR _ ls H locs d_Desk_trim_51 hP hS
      · replace hM := gi_f hc18 hM
        exact t_Desk_trim_b21 C hM hR ls H locs (lv_sub hl [] rfl) hP hS
theorem c_Desk_trim {l : Launch} {cy : Nat → ClassId} {D : va_G} {ρ : Nat → Nat} {A : Nat → Prop} (hD : gD ρ A) {x1 : Int32} {u : gSt} {z : (Int32 × gSt)} (hM : M_Desk_trim x1 u = some z) : gCtI l y_Desk_trim prog_1_method_3_code 2 (some .int) 0 0 cy D ρ A [.ref (ρ 0), .int x1] u z.1 z.2 :=
  g_met (by decide) hD (Nat.le_of_ble_eq_true rfl) (fun p e s m below meth c ls X hl hP => t_Desk_trim X hM (fun pc ls H locs hd hP hS => g_iret X hP hS hd) ls _ [] hl hP va_S.rf)
end
section
variable {p : Program} {l : Launch} {e : Env} {R : Room} {s : State} {m : MethodId} {args : Array Value} {below : List Frame} {meth : Method} {c : Code} {Q : State → Prop} {H0 : Heap} {cells slots : Nat} {cy : Nat → ClassId} {D : va_G} {ρ : Nat → Nat} {A : Nat → Prop}
def y_Desk_fault : MethodName := ⟨"TermDesk", "fault", "(I)I"⟩
theorem gi_Desk_fault : gMi y_Desk_fault prog_1_method_5_code 2 (some .int) 1 0 := ⟨(gWs_at 726 (by decide +kernel) (by decide +kernel)), (gWs_at 724 (by decide +kernel) (by decide +kernel)), (gWs_at 725 (by decide +kernel) (by decide +kernel)), (gWs_at 117 (by decide +kernel) (by decide +kernel)), ⟨by decide +kernel, by decide +kernel, by decide +kernel⟩, _, _, rfl⟩
theorem gm_Law_21 : gMk "TermDeskLaw" 21 y_Desk_fault := Or.inl (gWs_at 723 (by decide +kernel) (by decide +kernel))
theorem d_Desk_fault_0 : decode prog_1_method_5_code 0 = .ok (.iload_n 1, 1) := by decide +kernel
theorem d_Desk_fault_1 : decode prog_1_method_5_code 1 = .ok (.lookupswitch 37 #[(0, 27), (1, 32)], 27) := by decide +kernel
theorem d_Desk_fault_28 : decode prog_1_method_5_code 28 = .ok (.aload_n 0, 1) := by decide +kernel
theorem d_Desk_fault_29 : decode prog_1_method_5_code 29 = .ok (.getfield 40, 3) := by decide +kernel
theorem d_Desk_fault_32 : decode prog_1_method_5_code 32 = .ok (.ireturn, 1) := by decide +kernel
theorem d_Desk_fault_33 : decode prog_1_method_5_code 33 = .ok (.aload_n 0, 1) := by decide +kernel
theorem d_Desk_fault_34 : decode prog_1_method_5_code 34 = .ok (.getfield 44, 3) := by decide +kernel
theorem d_Desk_fault_37 : decode prog_1_method_5_code 37 = .ok (.ireturn, 1) := by decide +kernel
theorem d_Desk_fault_38 : decode prog_1_method_5_code 38 = .ok (.new 68, 3) := by decide +kernel
noncomputable def M_Desk_fault (x1 : Int32) (u : gSt) : Option ((Int32 × gSt)) :=
  if x1 = (0 : Int32) then
    (some (u.1 0 5, u))
  else if x1 = (1 : Int32) then
    (some (u.1 0 6, u))
  else
    (none)
set_option maxHeartbeats 4000000 in
set_option maxRecDepth 100000 in
theorem t_Desk_fault (C : gX "TermDesk" prog_1_method_5_code 2 (some .int) 0 0 R cells slots cy D ρ A p s m args meth c) {x1 : Int32} {u : gSt} {z : (Int32 × gSt)} (hM : M_Desk_fault x1 u = some z) (hR : gRtI p l e R s m args below meth c Q H0 cells slots cy D ρ A prog_1_method_5_code z.1 z.2) : gAt p l e R s m args below meth c Q H0 cells slots cy D ρ A 2 0 [(0, .ref (ρ 0)), (1, .int x1)] [] u := by
  intro ls H locs hl hP hS
  have hx := C.1
  have hb := C.2.1
  unfold M_Desk_fault at hM
  refine lv_iload_n hx hb d_Desk_fault_0 rfl (lv_at hl 1 rfl) ?_
  by_cases hc1_0 : x1 = (0 : Int32)
  · replace hM := gi_t hc1_0 hM
    refine g_look (tgt := 28) hx hb d_Desk_fault_1 27 (Or.inl ⟨hc1_0, rfl⟩) (by decide) ?_
    refine lv_aload_n hx hb d_Desk_fault_28 rfl (lv_at hl 0 rfl) ?_
    refine g_getI C hP gl_Desk_40 rfl rfl d_Desk_fault_29 ?_
    obtain rfl := Option.some.inj hM
    exact hR _ ls H locs d_Desk_fault_32 hP hS
  replace hM := gi_f hc1_0 hM
  by_cases hc1_1 : x1 = (1 : Int32)
  · replace hM := gi_t hc1_1 hM
    refine g_look (tgt := 33) hx hb d_Desk_fault_1 32 (Or.inr (Or.inl ⟨hc1_1, rfl⟩)) (by decide) ?_
    refine lv_aload_n hx hb d_Desk_fault_33 rfl (lv_at hl 0 rfl) ?_
    refine g_getI C hP gl_Desk_44 rfl rfl d_Desk_fault_34 ?_
    obtain rfl := Option.some.inj hM
    exact hR _ ls H locs d_Desk_fault_37 hP hS
  replace hM := gi_f hc1_1 hM
  refine g_look (tgt := 38) hx hb d_Desk_fault_1 37 (Or.inr (Or.inr ⟨hc1_0, hc1_1, rfl⟩)) (by decide) ?_
  cases hM
theorem c_Desk_fault {l : Launch} {cy : Nat → ClassId} {D : va_G} {ρ : Nat → Nat} {A : Nat → Prop} (hD : gD ρ A) {x1 : Int32} {u : gSt} {z : (Int32 × gSt)} (hM : M_Desk_fault x1 u = some z) : gCtI l y_Desk_fault prog_1_method_5_code 2 (some .int) 0 0 cy D ρ A [.ref (ρ 0), .int x1] u z.1 z.2 :=
  g_met (by decide) hD (Nat.le_of_ble_eq_true rfl) (fun p e s m below meth c ls X hl hP => t_Desk_fault X hM (fun pc ls H locs hd hP hS => g_iret X hP hS hd) ls _ [] hl hP va_S.rf)
end
section
variable {p : Program} {l : Launch} {e : Env} {R : Room} {s : State} {m : MethodId} {args : Array Value} {below : List Frame} {meth : Method} {c : Code} {Q : State → Prop} {H0 : Heap} {cells slots : Nat} {cy : Nat → ClassId} {D : va_G} {ρ : Nat → Nat} {A : Nat → Prop}
def y_Desk_about : MethodName := ⟨"TermDesk", "about", "(I)I"⟩
theorem gi_Desk_about : gMi y_Desk_about prog_1_method_6_code 2 (some .int) 1 0 := ⟨(gWs_at 734 (by decide +kernel) (by decide +kernel)), (gWs_at 732 (by decide +kernel) (by decide +kernel)), (gWs_at 733 (by decide +kernel) (by decide +kernel)), (gWs_at 117 (by decide +kernel) (by decide +kernel)), ⟨by decide +kernel, by decide +kernel, by decide +kernel⟩, _, _, rfl⟩
theorem gm_Law_24 : gMk "TermDeskLaw" 24 y_Desk_about := Or.inl (gWs_at 731 (by decide +kernel) (by decide +kernel))
theorem d_Desk_about_0 : decode prog_1_method_6_code 0 = .ok (.iload_n 1, 1) := by decide +kernel
theorem d_Desk_about_1 : decode prog_1_method_6_code 1 = .ok (.tableswitch 114 0 7 #[47, 55, 63, 71, 79, 87, 95, 103], 47) := by decide +kernel
theorem d_Desk_about_48 : decode prog_1_method_6_code 48 = .ok (.aload_n 0, 1) := by decide +kernel
theorem d_Desk_about_49 : decode prog_1_method_6_code 49 = .ok (.getfield 25, 3) := by decide +kernel
theorem d_Desk_about_52 : decode prog_1_method_6_code 52 = .ok (.getfield 85, 3) := by decide +kernel
theorem d_Desk_about_55 : decode prog_1_method_6_code 55 = .ok (.ireturn, 1) := by decide +kernel
theorem d_Desk_about_56 : decode prog_1_method_6_code 56 = .ok (.aload_n 0, 1) := by decide +kernel
theorem d_Desk_about_57 : decode prog_1_method_6_code 57 = .ok (.getfield 25, 3) := by decide +kernel
theorem d_Desk_about_60 : decode prog_1_method_6_code 60 = .ok (.invokevirtual 90, 3) := by decide +kernel
theorem d_Desk_about_63 : decode prog_1_method_6_code 63 = .ok (.ireturn, 1) := by decide +kernel
theorem d_Desk_about_64 : decode prog_1_method_6_code 64 = .ok (.aload_n 0, 1) := by decide +kernel
theorem d_Desk_about_65 : decode prog_1_method_6_code 65 = .ok (.getfield 25, 3) := by decide +kernel
theorem d_Desk_about_68 : decode prog_1_method_6_code 68 = .ok (.invokevirtual 93, 3) := by decide +kernel
theorem d_Desk_about_71 : decode prog_1_method_6_code 71 = .ok (.ireturn, 1) := by decide +kernel
theorem d_Desk_about_72 : decode prog_1_method_6_code 72 = .ok (.aload_n 0, 1) := by decide +kernel
theorem d_Desk_about_73 : decode prog_1_method_6_code 73 = .ok (.getfield 25, 3) := by decide +kernel
theorem d_Desk_about_76 : decode prog_1_method_6_code 76 = .ok (.invokevirtual 96, 3) := by decide +kernel
theorem d_Desk_about_79 : decode prog_1_method_6_code 79 = .ok (.ireturn, 1) := by decide +kernel
theorem d_Desk_about_80 : decode prog_1_method_6_code 80 = .ok (.aload_n 0, 1) := by decide +kernel
theorem d_Desk_about_81 : decode prog_1_method_6_code 81 = .ok (.getfield 29, 3) := by decide +kernel
theorem d_Desk_about_84 : decode prog_1_method_6_code 84 = .ok (.getfield 99, 3) := by decide +kernel
theorem d_Desk_about_87 : decode prog_1_method_6_code 87 = .ok (.ireturn, 1) := by decide +kernel
theorem d_Desk_about_88 : decode prog_1_method_6_code 88 = .ok (.aload_n 0, 1) := by decide +kernel
theorem d_Desk_about_89 : decode prog_1_method_6_code 89 = .ok (.getfield 25, 3) := by decide +kernel
theorem d_Desk_about_92 : decode prog_1_method_6_code 92 = .ok (.getfield 102, 3) := by decide +kernel
theorem d_Desk_about_95 : decode prog_1_method_6_code 95 = .ok (.ireturn, 1) := by decide +kernel
theorem d_Desk_about_96 : decode prog_1_method_6_code 96 = .ok (.aload_n 0, 1) := by decide +kernel
theorem d_Desk_about_97 : decode prog_1_method_6_code 97 = .ok (.getfield 25, 3) := by decide +kernel
theorem d_Desk_about_100 : decode prog_1_method_6_code 100 = .ok (.getfield 105, 3) := by decide +kernel
theorem d_Desk_about_103 : decode prog_1_method_6_code 103 = .ok (.ireturn, 1) := by decide +kernel
theorem d_Desk_about_104 : decode prog_1_method_6_code 104 = .ok (.aload_n 0, 1) := by decide +kernel
theorem d_Desk_about_105 : decode prog_1_method_6_code 105 = .ok (.getfield 25, 3) := by decide +kernel
theorem d_Desk_about_108 : decode prog_1_method_6_code 108 = .ok (.getfield 108, 3) := by decide +kernel
theorem d_Desk_about_111 : decode prog_1_method_6_code 111 = .ok (.getfield 112, 3) := by decide +kernel
theorem d_Desk_about_114 : decode prog_1_method_6_code 114 = .ok (.ireturn, 1) := by decide +kernel
theorem d_Desk_about_115 : decode prog_1_method_6_code 115 = .ok (.new 68, 3) := by decide +kernel
noncomputable def M_Desk_about (x1 : Int32) (u : gSt) : Option ((Int32 × gSt)) :=
  if x1 = (0 : Int32) then
    (some (u.1 4 9, u))
  else if x1 = (1 : Int32) then
    ((M_Board_genes u).bind fun q60 =>
    some (q60.1, q60.2))
  else if x1 = (2 : Int32) then
    ((M_Board_studied u).bind fun q68 =>
    some (q68.1, q68.2))
  else if x1 = (3 : Int32) then
    ((M_Board_candidates u).bind fun q76 =>
    some (q76.1, q76.2))
  else if x1 = (4 : Int32) then
    (some (u.1 27 13, u))
  else if x1 = (5 : Int32) then
    (some (u.1 4 10, u))
  else if x1 = (6 : Int32) then
    (some (u.1 4 11, u))
  else if x1 = (7 : Int32) then
    (some (u.1 5 3, u))
  else 
    (none)
set_option maxHeartbeats 4000000 in
set_option maxRecDepth 100000 in
theorem t_Desk_about (C : gX "TermDesk" prog_1_method_6_code 2 (some .int) 5 110 R cells slots cy D ρ A p s m args meth c) {x1 : Int32} {u : gSt} {z : (Int32 × gSt)} (hM : M_Desk_about x1 u = some z) (hR : gRtI p l e R s m args below meth c Q H0 cells slots cy D ρ A prog_1_method_6_code z.1 z.2) : gAt p l e R s m args below meth c Q H0 cells slots cy D ρ A 2 0 [(0, .ref (ρ 0)), (1, .int x1)] [] u := by
  intro ls H locs hl hP hS
  have hx := C.1
  have hb := C.2.1
  unfold M_Desk_about at hM
  refine lv_iload_n hx hb d_Desk_about_0 rfl (lv_at hl 1 rfl) ?_
  by_cases hc1_0 : x1 = (0 : Int32)
  · replace hM := gi_t hc1_0 hM
    refine g_tabIn (v := 0) (tgt := 48) hx hb d_Desk_about_1 hc1_0 (by decide) (by decide) (off := 47) (by decide) (by decide) ?_
    refine lv_aload_n hx hb d_Desk_about_48 rfl (lv_at hl 0 rfl) ?_
    refine g_getR (b := 4) C hP gl_Desk_25 rfl rfl rfl d_Desk_about_49 ?_
    refine g_getI C hP gl_Desk_85 rfl rfl d_Desk_about_52 ?_
    obtain rfl := Option.some.inj hM
    exact hR _ ls H locs d_Desk_about_55 hP hS
  replace hM := gi_f hc1_0 hM
  by_cases hc1_1 : x1 = (1 : Int32)
  · replace hM := gi_t hc1_1 hM
    refine g_tabIn (v := 1) (tgt := 56) hx hb d_Desk_about_1 hc1_1 (by decide) (by decide) (off := 55) (by decide) (by decide) ?_
    refine lv_aload_n hx hb d_Desk_about_56 rfl (lv_at hl 0 rfl) ?_
    refine g_getR (b := 4) C hP gl_Desk_25 rfl rfl rfl d_Desk_about_57 ?_
    obtain ⟨q60, hq60, hM⟩ := gb_some hM
    refine g_backI (g_runV (As := []) C hP (c_Board_genes C.2.2.2.2.2.2.2.2.1 hq60) gi_Board_genes gm_Desk_90 rfl rfl (by decide) (by decide) hl.1 rfl (Nat.le_of_ble_eq_true rfl) d_Desk_about_60) hS (fun H locs hP hS => ?_)
    obtain rfl := Option.some.inj hM
    exact hR _ ls H locs d_Desk_about_63 hP hS
  replace hM := gi_f hc1_1 hM
  by_cases hc1_2 : x1 = (2 : Int32)
  · replace hM := gi_t hc1_2 hM
    refine g_tabIn (v := 2) (tgt := 64) hx hb d_Desk_about_1 hc1_2 (by decide) (by decide) (off := 63) (by decide) (by decide) ?_
    refine lv_aload_n hx hb d_Desk_about_64 rfl (lv_at hl 0 rfl) ?_
    refine g_getR (b := 4) C hP gl_Desk_25 rfl rfl rfl d_Desk_about_65 ?_
    obtain ⟨q68, hq68, hM⟩ := gb_some hM
    refine g_backI (g_runV (As := []) C hP (c_Board_studied C.2.2.2.2.2.2.2.2.1 hq68) gi_Board_studied gm_Desk_93 rfl rfl (by decide) (by decide) hl.1 rfl (Nat.le_of_ble_eq_true rfl) d_Desk_about_68) hS (fun H locs hP hS => ?_)
    obtain rfl := Option.some.inj hM
    exact hR _ ls H locs d_Desk_about_71 hP hS
  replace hM := gi_f hc1_2 hM
  by_cases hc1_3 : x1 = (3 : Int32)
  · replace hM := gi_t hc1_3 hM
    refine g_tabIn (v := 3) (tgt := 72) hx hb d_Desk_about_1 hc1_3 (by decide) (by decide) (off := 71) (by decide) (by decide) ?_
    refine lv_aload_n hx hb d_Desk_about_72 rfl (lv_at hl 0 rfl) ?_
    refine g_getR (b := 4) C hP gl_Desk_25 rfl rfl rfl d_Desk_about_73 ?_
    obtain ⟨q76, hq76, hM⟩ := gb_some hM
    refine g_backI (g_runV (As := []) C hP (c_Board_candidates C.2.2.2.2.2.2.2.2.1 hq76) gi_Board_candidates gm_Desk_96 rfl rfl (by decide) (by decide) hl.1 rfl (Nat.le_of_ble_eq_true rfl) d_Desk_about_76) hS (fun H locs hP hS => ?_)
    obtain rfl := Option.some.inj hM
    exact hR _ ls H locs d_Desk_about_79 hP hS
  replace hM := gi_f hc1_3 hM
  by_cases hc1_4 : x1 = (4 : Int32)
  · replace hM := gi_t hc1_4 hM
    refine g_tabIn (v := 4) (tgt := 80) hx hb d_Desk_about_1 hc1_4 (by decide) (by decide) (off := 79) (by decide) (by decide) ?_
    refine lv_aload_n hx hb d_Desk_about_80 rfl (lv_at hl 0 rfl) ?_
    refine g_getR (b := 27) C hP gl_Desk_29 rfl rfl rfl d_Desk_about_81 ?_
    refine g_getI C hP gl_Desk_99 rfl rfl d_Desk_about_84 ?_
    obtain rfl := Option.some.inj hM
    exact hR _ ls H locs d_Desk_about_87 hP hS
  replace hM := gi_f hc1_4 hM
  by_cases hc1_5 : x1 = (5 : Int32)
  · replace hM := gi_t hc1_5 hM
    refine g_tabIn (v := 5) (tgt := 88) hx hb d_Desk_about_1 hc1_5 (by decide) (by decide) (off := 87) (by decide) (by decide) ?_
    refine lv_aload_n hx hb d_Desk_about_88 rfl (lv_at hl 0 rfl) ?_
    refine g_getR (b := 4) C hP gl_Desk_25 rfl rfl rfl d_Desk_about_89 ?_
    refine g_getI C hP gl_Desk_102 rfl rfl d_Desk_about_92 ?_
    obtain rfl := Option.some.inj hM
    exact hR _ ls H locs d_Desk_about_95 hP hS
  replace hM := gi_f hc1_5 hM
  by_cases hc1_6 : x1 = (6 : Int32)
  · replace hM := gi_t hc1_6 hM
    refine g_tabIn (v := 6) (tgt := 96) hx hb d_Desk_about_1 hc1_6 (by decide) (by decide) (off := 95) (by decide) (by decide) ?_
    refine lv_aload_n hx hb d_Desk_about_96 rfl (lv_at hl 0 rfl) ?_
    refine g_getR (b := 4) C hP gl_Desk_25 rfl rfl rfl d_Desk_about_97 ?_
    refine g_getI C hP gl_Desk_105 rfl rfl d_Desk_about_100 ?_
    obtain rfl := Option.some.inj hM
    exact hR _ ls H locs d_Desk_about_103 hP hS
  replace hM := gi_f hc1_6 hM
  by_cases hc1_7 : x1 = (7 : Int32)
  · replace hM := gi_t hc1_7 hM
    refine g_tabIn (v := 7) (tgt := 104) hx hb d_Desk_about_1 hc1_7 (by decide) (by decide) (off := 103) (by decide) (by decide) ?_
    refine lv_aload_n hx hb d_Desk_about_104 rfl (lv_at hl 0 rfl) ?_
    refine g_getR (b := 4) C hP gl_Desk_25 rfl rfl rfl d_Desk_about_105 ?_
    refine g_getR (b := 5) C hP gl_Desk_108 rfl rfl rfl d_Desk_about_108 ?_
    refine g_getI C hP gl_Desk_112 rfl rfl d_Desk_about_111 ?_
    obtain rfl := Option.some.inj hM
    exact hR _ ls H locs d_Desk_about_114 hP hS
  replace hM := gi_f hc1_7 hM
  refine lv_tableOut (tgt := 115) hx hb d_Desk_about_1 (by have := gneI (k := 0) hc1_0 (by decide); have := gneI (k := 0) hc1_0 (by decide); have := gneI (k := 1) hc1_1 (by decide); have := gneI (k := 2) hc1_2 (by decide); have := gneI (k := 3) hc1_3 (by decide); have := gneI (k := 4) hc1_4 (by decide); have := gneI (k := 5) hc1_5 (by decide); have := gneI (k := 6) hc1_6 (by decide); have := gneI (k := 7) hc1_7 (by decide); omega) (by decide) ?_
  cases hM
theorem c_Desk_about {l : Launch} {cy : Nat → ClassId} {D : va_G} {ρ : Nat → Nat} {A : Nat → Prop} (hD : gD ρ A) {x1 : Int32} {u : gSt} {z : (Int32 × gSt)} (hM : M_Desk_about x1 u = some z) : gCtI l y_Desk_about prog_1_method_6_code 2 (some .int) 5 110 cy D ρ A [.ref (ρ 0), .int x1] u z.1 z.2 :=
  g_met (by decide) hD (Nat.le_of_ble_eq_true rfl) (fun p e s m below meth c ls X hl hP => t_Desk_about X hM (fun pc ls H locs hd hP hS => g_iret X hP hS hd) ls _ [] hl hP va_S.rf)
end
section
variable {p : Program} {l : Launch} {e : Env} {R : Room} {s : State} {m : MethodId} {args : Array Value} {below : List Frame} {meth : Method} {c : Code} {Q : State → Prop} {H0 : Heap} {cells slots : Nat} {cy : Nat → ClassId} {D : va_G} {ρ : Nat → Nat} {A : Nat → Prop}
def y_Desk_term : MethodName := ⟨"TermDesk", "term", "(II)I"⟩
theorem gi_Desk_term : gMi y_Desk_term prog_1_method_7_code 3 (some .int) 2 0 := ⟨(gWs_at 779 (by decide +kernel) (by decide +kernel)), (gWs_at 777 (by decide +kernel) (by decide +kernel)), (gWs_at 778 (by decide +kernel) (by decide +kernel)), (gWs_at 117 (by decide +kernel) (by decide +kernel)), ⟨by decide +kernel, by decide +kernel, by decide +kernel⟩, _, _, rfl⟩
theorem gm_Law_27 : gMk "TermDeskLaw" 27 y_Desk_term := Or.inl (gWs_at 776 (by decide +kernel) (by decide +kernel))
theorem d_Desk_term_0 : decode prog_1_method_7_code 0 = .ok (.aload_n 0, 1) := by decide +kernel
theorem d_Desk_term_1 : decode prog_1_method_7_code 1 = .ok (.getfield 25, 3) := by decide +kernel
theorem d_Desk_term_4 : decode prog_1_method_7_code 4 = .ok (.iload_n 1, 1) := by decide +kernel
theorem d_Desk_term_5 : decode prog_1_method_7_code 5 = .ok (.invokevirtual 119, 3) := by decide +kernel
theorem d_Desk_term_8 : decode prog_1_method_7_code 8 = .ok (.ifCond .ne 13, 3) := by decide +kernel
theorem d_Desk_term_11 : decode prog_1_method_7_code 11 = .ok (.new 123, 3) := by decide +kernel
theorem d_Desk_term_21 : decode prog_1_method_7_code 21 = .ok (.iload_n 2, 1) := by decide +kernel
theorem d_Desk_term_22 : decode prog_1_method_7_code 22 = .ok (.tableswitch 119 0 6 #[42, 54, 66, 75, 84, 93, 110], 42) := by decide +kernel
theorem d_Desk_term_64 : decode prog_1_method_7_code 64 = .ok (.aload_n 0, 1) := by decide +kernel
theorem d_Desk_term_65 : decode prog_1_method_7_code 65 = .ok (.getfield 25, 3) := by decide +kernel
theorem d_Desk_term_68 : decode prog_1_method_7_code 68 = .ok (.getfield 128, 3) := by decide +kernel
theorem d_Desk_term_71 : decode prog_1_method_7_code 71 = .ok (.iload_n 1, 1) := by decide +kernel
theorem d_Desk_term_72 : decode prog_1_method_7_code 72 = .ok (.invokevirtual 132, 3) := by decide +kernel
theorem d_Desk_term_75 : decode prog_1_method_7_code 75 = .ok (.ireturn, 1) := by decide +kernel
theorem d_Desk_term_76 : decode prog_1_method_7_code 76 = .ok (.aload_n 0, 1) := by decide +kernel
theorem d_Desk_term_77 : decode prog_1_method_7_code 77 = .ok (.getfield 25, 3) := by decide +kernel
theorem d_Desk_term_80 : decode prog_1_method_7_code 80 = .ok (.getfield 137, 3) := by decide +kernel
theorem d_Desk_term_83 : decode prog_1_method_7_code 83 = .ok (.iload_n 1, 1) := by decide +kernel
theorem d_Desk_term_84 : decode prog_1_method_7_code 84 = .ok (.invokevirtual 132, 3) := by decide +kernel
theorem d_Desk_term_87 : decode prog_1_method_7_code 87 = .ok (.ireturn, 1) := by decide +kernel
theorem d_Desk_term_88 : decode prog_1_method_7_code 88 = .ok (.aload_n 0, 1) := by decide +kernel
theorem d_Desk_term_89 : decode prog_1_method_7_code 89 = .ok (.getfield 25, 3) := by decide +kernel
theorem d_Desk_term_92 : decode prog_1_method_7_code 92 = .ok (.iload_n 1, 1) := by decide +kernel
theorem d_Desk_term_93 : decode prog_1_method_7_code 93 = .ok (.invokevirtual 140, 3) := by decide +kernel
theorem d_Desk_term_96 : decode prog_1_method_7_code 96 = .ok (.ireturn, 1) := by decide +kernel
theorem d_Desk_term_97 : decode prog_1_method_7_code 97 = .ok (.aload_n 0, 1) := by decide +kernel
theorem d_Desk_term_98 : decode prog_1_method_7_code 98 = .ok (.getfield 25, 3) := by decide +kernel
theorem d_Desk_term_101 : decode prog_1_method_7_code 101 = .ok (.iload_n 1, 1) := by decide +kernel
theorem d_Desk_term_102 : decode prog_1_method_7_code 102 = .ok (.invokevirtual 143, 3) := by decide +kernel
theorem d_Desk_term_105 : decode prog_1_method_7_code 105 = .ok (.ireturn, 1) := by decide +kernel
theorem d_Desk_term_106 : decode prog_1_method_7_code 106 = .ok (.aload_n 0, 1) := by decide +kernel
theorem d_Desk_term_107 : decode prog_1_method_7_code 107 = .ok (.getfield 25, 3) := by decide +kernel
theorem d_Desk_term_110 : decode prog_1_method_7_code 110 = .ok (.iload_n 1, 1) := by decide +kernel
theorem d_Desk_term_111 : decode prog_1_method_7_code 111 = .ok (.invokevirtual 146, 3) := by decide +kernel
theorem d_Desk_term_114 : decode prog_1_method_7_code 114 = .ok (.ireturn, 1) := by decide +kernel
theorem d_Desk_term_115 : decode prog_1_method_7_code 115 = .ok (.aload_n 0, 1) := by decide +kernel
theorem d_Desk_term_116 : decode prog_1_method_7_code 116 = .ok (.getfield 25, 3) := by decide +kernel
theorem d_Desk_term_119 : decode prog_1_method_7_code 119 = .ok (.iload_n 1, 1) := by decide +kernel
theorem d_Desk_term_120 : decode prog_1_method_7_code 120 = .ok (.invokevirtual 149, 3) := by decide +kernel
theorem d_Desk_term_123 : decode prog_1_method_7_code 123 = .ok (.ifCond .eq 7, 3) := by decide +kernel
theorem d_Desk_term_126 : decode prog_1_method_7_code 126 = .ok (.iconst 1, 1) := by decide +kernel
theorem d_Desk_term_127 : decode prog_1_method_7_code 127 = .ok (.goto 4, 3) := by decide +kernel
theorem d_Desk_term_130 : decode prog_1_method_7_code 130 = .ok (.iconst 0, 1) := by decide +kernel
theorem d_Desk_term_131 : decode prog_1_method_7_code 131 = .ok (.ireturn, 1) := by decide +kernel
theorem d_Desk_term_132 : decode prog_1_method_7_code 132 = .ok (.aload_n 0, 1) := by decide +kernel
theorem d_Desk_term_133 : decode prog_1_method_7_code 133 = .ok (.getfield 25, 3) := by decide +kernel
theorem d_Desk_term_136 : decode prog_1_method_7_code 136 = .ok (.iload_n 1, 1) := by decide +kernel
theorem d_Desk_term_137 : decode prog_1_method_7_code 137 = .ok (.invokevirtual 152, 3) := by decide +kernel
theorem d_Desk_term_140 : decode prog_1_method_7_code 140 = .ok (.ireturn, 1) := by decide +kernel
theorem d_Desk_term_141 : decode prog_1_method_7_code 141 = .ok (.new 68, 3) := by decide +kernel
noncomputable def M_Desk_term_b131 (s0 : Int32) (u : gSt) : Option ((Int32 × gSt)) :=
  some (s0, u)
set_option maxHeartbeats 4000000 in
set_option maxRecDepth 100000 in
theorem t_Desk_term_b131 (C : gX "TermDesk" prog_1_method_7_code 3 (some .int) 4 92 R cells slots cy D ρ A p s m args meth c) {s0 : Int32} {u : gSt} {z : (Int32 × gSt)} (hM : M_Desk_term_b131 s0 u = some z) (hR : gRtI p l e R s m args below meth c Q H0 cells slots cy D ρ A prog_1_method_7_code z.1 z.2) : gAt p l e R s m args below meth c Q H0 cells slots cy D ρ A 3 131 [] [.int s0] u := by
  intro ls H locs hl hP hS
  have hx := C.1
  have hb := C.2.1
  unfold M_Desk_term_b131 at hM
  obtain rfl := Option.some.inj hM
  exact hR _ ls H locs d_Desk_term_131 hP hS
noncomputable def M_Desk_term (x1 : Int32) (x2 : Int32) (u : gSt) : Option ((Int32 × gSt)) :=
  (M_Board_hasTerm x1 u).bind fun q5 =>
  if q5.1 = (0 : Int32) then
    (none)
  else
    (if x2 = (0 : Int32) then
      ((M_Grid_count 13 x1 q5.2).bind fun q72 =>
      some (q72.1, q72.2))
    else if x2 = (1 : Int32) then
      ((M_Grid_count 15 x1 q5.2).bind fun q84 =>
      some (q84.1, q84.2))
    else if x2 = (2 : Int32) then
      ((M_Board_countBelow x1 q5.2).bind fun q93 =>
      some (q93.1, q93.2))
    else if x2 = (3 : Int32) then
      ((M_Board_genesAt x1 q5.2).bind fun q102 =>
      some (q102.1, q102.2))
    else if x2 = (4 : Int32) then
      ((M_Board_studiedAt x1 q5.2).bind fun q111 =>
      some (q111.1, q111.2))
    else if x2 = (5 : Int32) then
      ((M_Board_isOld x1 q5.2).bind fun q120 =>
      if q120.1 = (0 : Int32) then
        (M_Desk_term_b131 (0 : Int32) q120.2)
      else
        (M_Desk_term_b131 (1 : Int32) q120.2))
    else if x2 = (6 : Int32) then
      ((M_Board_longestWayUp x1 q5.2).bind fun q137 =>
      some (q137.1, q137.2))
    else 
      (none))
set_option maxHeartbeats 4000000 in
set_option maxRecDepth 100000 in
theorem t_Desk_term (C : gX "TermDesk" prog_1_method_7_code 3 (some .int) 4 92 R cells slots cy D ρ A p s m args meth c) {x1 : Int32} {x2 : Int32} {u : gSt} {z : (Int32 × gSt)} (hM : M_Desk_term x1 x2 u = some z) (hR : gRtI p l e R s m args below meth c Q H0 cells slots cy D ρ A prog_1_method_7_code z.1 z.2) : gAt p l e R s m args below meth c Q H0 cells slots cy D ρ A 3 0 [(0, .ref (ρ 0)), (1, .int x1), (2, .int x2)] [] u := by
  intro ls H locs hl hP hS
  have hx := C.1
  have hb := C.2.1
  unfold M_Desk_term at hM
  refine lv_aload_n hx hb d_Desk_term_0 rfl (lv_at hl 0 rfl) ?_
  refine g_getR (b := 4) C hP gl_Desk_25 rfl rfl rfl d_Desk_term_1 ?_
  refine lv_iload_n hx hb d_Desk_term_4 rfl (lv_at hl 1 rfl) ?_
  obtain ⟨q5, hq5, hM⟩ := gb_some hM
  refine g_backI (g_runV (As := [.int x1]) C hP (c_Board_hasTerm C.2.2.2.2.2.2.2.2.1 hq5) gi_Board_hasTerm gm_Desk_119 rfl rfl (by decide) (by decide) hl.1 rfl (Nat.le_of_ble_eq_true rfl) d_Desk_term_5) hS (fun H locs hP hS => ?_)
  refine lv_if_ne (tgt := 21) hx hb d_Desk_term_8 (by decide) (fun hc8 => ?_) (fun hc8 => ?_)
  · replace hM := gi_f hc8 hM
    refine lv_iload_n hx hb d_Desk_term_21 rfl (lv_at hl 2 rfl) ?_
    by_cases hc22_0 : x2 = (0 : Int32)
    · replace hM := gi_t hc22_0 hM
      refine g_tabIn (v := 0) (tgt := 64) hx hb d_Desk_term_22 hc22_0 (by decide) (by decide) (off := 42) (by decide) (by decide) ?_
      refine lv_aload_n hx hb d_Desk_term_64 rfl (lv_at hl 0 rfl) ?_
      refine g_getR (b := 4) C hP gl_Desk_25 rfl rfl rfl d_Desk_term_65 ?_
      refine g_getR (b := 13) C hP gl_Desk_128 rfl rfl rfl d_Desk_term_68 ?_
      refine lv_iload_n hx hb d_Desk_term_71 rfl (lv_at hl 1 rfl) ?_
      obtain ⟨q72, hq72, hM⟩ := gb_some hM
      refine g_backI (g_runV (As := [.int x1]) C hP (c_Grid_count C.2.2.2.2.2.2.2.2.1 hq72) gi_Grid_count gm_Desk_132 rfl rfl (by decide) (by decide) hl.1 rfl (Nat.le_of_ble_eq_true rfl) d_Desk_term_72) hS (fun H locs hP hS => ?_)
      obtain rfl := Option.some.inj hM
      exact hR _ ls H locs d_Desk_term_75 hP hS
    replace hM := gi_f hc22_0 hM
    by_cases hc22_1 : x2 = (1 : Int32)
    · replace hM := gi_t hc22_1 hM
      refine g_tabIn (v := 1) (tgt := 76) hx hb d_Desk_term_22 hc22_1 (by decide) (by decide) (off := 54) (by decide) (by decide) ?_
      refine lv_aload_n hx hb d_Desk_term_76 rfl (lv_at hl 0 rfl) ?_
      refine g_getR (b := 4) C hP gl_Desk_25 rfl rfl rfl d_Desk_term_77 ?_
      refine g_getR (b := 15) C hP gl_Desk_137 rfl rfl rfl d_Desk_term_80 ?_
      refine lv_iload_n hx hb d_Desk_term_83 rfl (lv_at hl 1 rfl) ?_
      obtain ⟨q84, hq84, hM⟩ := gb_some hM
      refine g_backI (g_runV (As := [.int x1]) C hP (c_Grid_count C.2.2.2.2.2.2.2.2.1 hq84) gi_Grid_count gm_Desk_132 rfl rfl (by decide) (by decide) hl.1 rfl (Nat.le_of_ble_eq_true rfl) d_Desk_term_84) hS (fun H locs hP hS => ?_)
      obtain rfl := Option.some.inj hM
      exact hR _ ls H locs d_Desk_term_87 hP hS
    replace hM := gi_f hc22_1 hM
    by_cases hc22_2 : x2 = (2 : Int32)
    · replace hM := gi_t hc22_2 hM
      refine g_tabIn (v := 2) (tgt := 88) hx hb d_Desk_term_22 hc22_2 (by decide) (by decide) (off := 66) (by decide) (by decide) ?_
      refine lv_aload_n hx hb d_Desk_term_88 rfl (lv_at hl 0 rfl) ?_
      refine g_getR (b := 4) C hP gl_Desk_25 rfl rfl rfl d_Desk_term_89 ?_
      refine lv_iload_n hx hb d_Desk_term_92 rfl (lv_at hl 1 rfl) ?_
      obtain ⟨q93, hq93, hM⟩ := gb_some hM
      refine g_backI (g_runV (As := [.int x1]) C hP (c_Board_countBelow C.2.2.2.2.2.2.2.2.1 hq93) gi_Board_countBelow gm_Desk_140 rfl rfl (by decide) (by decide) hl.1 rfl (Nat.le_of_ble_eq_true rfl) d_Desk_term_93) hS (fun H locs hP hS => ?_)
      obtain rfl := Option.some.inj hM
      exact hR _ ls H locs d_Desk_term_96 hP hS
    replace hM := gi_f hc22_2 hM
    by_cases hc22_3 : x2 = (3 : Int32)
    · replace hM := gi_t hc22_3 hM
      refine g_tabIn (v := 3) (tgt := 97) hx hb d_Desk_term_22 hc22_3 (by decide) (by decide) (off := 75) (by decide) (by decide) ?_
      refine lv_aload_n hx hb d_Desk_term_97 rfl (lv_at hl 0 rfl) ?_
      refine g_getR (b := 4) C hP gl_Desk_25 rfl rfl rfl d_Desk_term_98 ?_
      refine lv_iload_n hx hb d_Desk_term_101 rfl (lv_at hl 1 rfl) ?_
      obtain ⟨q102, hq102, hM⟩ := gb_some hM
      refine g_backI (g_runV (As := [.int x1]) C hP (c_Board_genesAt C.2.2.2.2.2.2.2.2.1 hq102) gi_Board_genesAt gm_Desk_143 rfl rfl (by decide) (by decide) hl.1 rfl (Nat.le_of_ble_eq_true rfl) d_Desk_term_102) hS (fun H locs hP hS => ?_)
      obtain rfl := Option.some.inj hM
      exact hR _ ls H locs d_Desk_term_105 hP hS
    replace hM := gi_f hc22_3 hM
    by_cases hc22_4 : x2 = (4 : Int32)
    · replace hM := gi_t hc22_4 hM
      refine g_tabIn (v := 4) (tgt := 106) hx hb d_Desk_term_22 hc22_4 (by decide) (by decide) (off := 84) (by decide) (by decide) ?_
      refine lv_aload_n hx hb d_Desk_term_106 rfl (lv_at hl 0 rfl) ?_
      refine g_getR (b := 4) C hP gl_Desk_25 rfl rfl rfl d_Desk_term_107 ?_
      refine lv_iload_n hx hb d_Desk_term_110 rfl (lv_at hl 1 rfl) ?_
      obtain ⟨q111, hq111, hM⟩ := gb_some hM
      refine g_backI (g_runV (As := [.int x1]) C hP (c_Board_studiedAt C.2.2.2.2.2.2.2.2.1 hq111) gi_Board_studiedAt gm_Desk_146 rfl rfl (by decide) (by decide) hl.1 rfl (Nat.le_of_ble_eq_true rfl) d_Desk_term_111) hS (fun H locs hP hS => ?_)
      obtain rfl := Option.some.inj hM
      exact hR _ ls H locs d_Desk_term_114 hP hS
    replace hM := gi_f hc22_4 hM
    by_cases hc22_5 : x2 = (5 : Int32)
    · replace hM := gi_t hc22_5 hM
      refine g_tabIn (v := 5) (tgt := 115) hx hb d_Desk_term_22 hc22_5 (by decide) (by decide) (off := 93) (by decide) (by decide) ?_
      refine lv_aload_n hx hb d_Desk_term_115 rfl (lv_at hl 0 rfl) ?_
      refine g_getR (b := 4) C hP gl_Desk_25 rfl rfl rfl d_Desk_term_116 ?_
      refine lv_iload_n hx hb d_Desk_term_119 rfl (lv_at hl 1 rfl) ?_
      obtain ⟨q120, hq120, hM⟩ := gb_some hM
      refine g_backI (g_runV (As := [.int x1]) C hP (c_Board_isOld C.2.2.2.2.2.2.2.2.1 hq120) gi_Board_isOld gm_Desk_149 rfl rfl (by decide) (by decide) hl.1 rfl (Nat.le_of_ble_eq_true rfl) d_Desk_term_120) hS (fun H locs hP hS => ?_)
      refine lv_if_eq (tgt := 130) hx hb d_Desk_term_123 (by decide) (fun hc123 => ?_) (fun hc123 => ?_)
      · replace hM := gi_t hc123 hM
        refine lv_iconst (v := (0 : Int32)) hx hb d_Desk_term_130 (by decide) ?_
        exact t_Desk_term_b131 C hM hR ls H locs (lv_sub hl [] rfl) hP hS
      · replace hM := gi_f hc123 hM
        refine lv_iconst (v := (1 : Int32)) hx hb d_Desk_term_126 (by decide) ?_
        refine lv_goto (tgt := 131) hx hb d_Desk_term_127 (by decide) ?_
        exact t_Desk_term_b131 C hM hR ls H locs (lv_sub hl [] rfl) hP hS
    replace hM := gi_f hc22_5 hM
    by_cases hc22_6 : x2 = (6 : Int32)
    · replace hM := gi_t hc22_6 hM
      refine g_tabIn (v := 6) (tgt := 132) hx hb d_Desk_term_22 hc22_6 (by decide) (by decide) (off := 110) (by decide) (by decide) ?_
      refine lv_aload_n hx hb d_Desk_term_132 rfl (lv_at hl 0 rfl) ?_
      refine g_getR (b := 4) C hP gl_Desk_25 rfl rfl rfl d_Desk_term_133 ?_
      refine lv_iload_n hx hb d_Desk_term_136 rfl (lv_at hl 1 rfl) ?_
      obtain ⟨q137, hq137, hM⟩ := gb_some hM
      refine g_backI (g_runV (As := [.int x1]) C hP (c_Board_longestWayUp C.2.2.2.2.2.2.2.2.1 hq137) gi_Board_longestWayUp gm_Desk_152 rfl rfl (by decide) (by decide) hl.1 rfl (Nat.le_of_ble_eq_true rfl) d_Desk_term_137) hS (fun H locs hP hS => ?_)
      obtain rfl := Option.some.inj hM
      exact hR _ ls H locs d_Desk_term_140 hP hS
    replace hM := gi_f hc22_6 hM
    refine lv_tableOut (tgt := 141) hx hb d_Desk_term_22 (by have := gneI (k := 0) hc22_0 (by decide); have := gneI (k := 0) hc22_0 (by decide); have := gneI (k := 1) hc22_1 (by decide); have := gneI (k := 2) hc22_2 (by decide); have := gneI (k := 3) hc22_3 (by decide); have := gneI (k := 4) hc22_4 (by decide); have := gneI (k := 5) hc22_5 (by decide); have := gneI (k := 6) hc22_6 (by decide); omega) (by decide) ?_
    cases hM
  · replace hM := gi_t hc8 hM
    cases hM
theorem c_Desk_term {l : Launch} {cy : Nat → ClassId} {D : va_G} {ρ : Nat → Nat} {A : Nat → Prop} (hD : gD ρ A) {x1 : Int32} {x2 : Int32} {u : gSt} {z : (Int32 × gSt)} (hM : M_Desk_term x1 x2 u = some z) : gCtI l y_Desk_term prog_1_method_7_code 3 (some .int) 4 92 cy D ρ A [.ref (ρ 0), .int x1, .int x2] u z.1 z.2 :=
  g_met (by decide) hD (Nat.le_of_ble_eq_true rfl) (fun p e s m below meth c ls X hl hP => t_Desk_term X hM (fun pc ls H locs hd hP hS => g_iret X hP hS hd) ls _ [] hl hP va_S.rf)
end
section
variable {p : Program} {l : Launch} {e : Env} {R : Room} {s : State} {m : MethodId} {args : Array Value} {below : List Frame} {meth : Method} {c : Code} {Q : State → Prop} {H0 : Heap} {cells slots : Nat} {cy : Nat → ClassId} {D : va_G} {ρ : Nat → Nat} {A : Nat → Prop}
def y_Desk_letter : MethodName := ⟨"TermDesk", "letter", "(IZI)I"⟩
theorem gi_Desk_letter : gMi y_Desk_letter prog_1_method_8_code 4 (some .int) 3 0 := ⟨(gWs_at 823 (by decide +kernel) (by decide +kernel)), (gWs_at 821 (by decide +kernel) (by decide +kernel)), (gWs_at 822 (by decide +kernel) (by decide +kernel)), (gWs_at 117 (by decide +kernel) (by decide +kernel)), ⟨by decide +kernel, by decide +kernel, by decide +kernel⟩, _, _, rfl⟩
theorem gm_Law_33 : gMk "TermDeskLaw" 33 y_Desk_letter := Or.inl (gWs_at 820 (by decide +kernel) (by decide +kernel))
theorem d_Desk_letter_0 : decode prog_1_method_8_code 0 = .ok (.iload_n 2, 1) := by decide +kernel
theorem d_Desk_letter_1 : decode prog_1_method_8_code 1 = .ok (.ifCond .eq 17, 3) := by decide +kernel
theorem d_Desk_letter_4 : decode prog_1_method_8_code 4 = .ok (.aload_n 0, 1) := by decide +kernel
theorem d_Desk_letter_5 : decode prog_1_method_8_code 5 = .ok (.getfield 25, 3) := by decide +kernel
theorem d_Desk_letter_8 : decode prog_1_method_8_code 8 = .ok (.iload_n 1, 1) := by decide +kernel
theorem d_Desk_letter_9 : decode prog_1_method_8_code 9 = .ok (.invokevirtual 157, 3) := by decide +kernel
theorem d_Desk_letter_12 : decode prog_1_method_8_code 12 = .ok (.ifCond .ne 27, 3) := by decide +kernel
theorem d_Desk_letter_15 : decode prog_1_method_8_code 15 = .ok (.goto 14, 3) := by decide +kernel
theorem d_Desk_letter_18 : decode prog_1_method_8_code 18 = .ok (.aload_n 0, 1) := by decide +kernel
theorem d_Desk_letter_19 : decode prog_1_method_8_code 19 = .ok (.getfield 25, 3) := by decide +kernel
theorem d_Desk_letter_22 : decode prog_1_method_8_code 22 = .ok (.iload_n 1, 1) := by decide +kernel
theorem d_Desk_letter_23 : decode prog_1_method_8_code 23 = .ok (.invokevirtual 119, 3) := by decide +kernel
theorem d_Desk_letter_26 : decode prog_1_method_8_code 26 = .ok (.ifCond .ne 13, 3) := by decide +kernel
theorem d_Desk_letter_29 : decode prog_1_method_8_code 29 = .ok (.new 123, 3) := by decide +kernel
theorem d_Desk_letter_39 : decode prog_1_method_8_code 39 = .ok (.iload_n 2, 1) := by decide +kernel
theorem d_Desk_letter_40 : decode prog_1_method_8_code 40 = .ok (.ifCond .eq 18, 3) := by decide +kernel
theorem d_Desk_letter_43 : decode prog_1_method_8_code 43 = .ok (.aload_n 0, 1) := by decide +kernel
theorem d_Desk_letter_44 : decode prog_1_method_8_code 44 = .ok (.getfield 25, 3) := by decide +kernel
theorem d_Desk_letter_47 : decode prog_1_method_8_code 47 = .ok (.getfield 162, 3) := by decide +kernel
theorem d_Desk_letter_50 : decode prog_1_method_8_code 50 = .ok (.iload_n 1, 1) := by decide +kernel
theorem d_Desk_letter_51 : decode prog_1_method_8_code 51 = .ok (.iload_n 3, 1) := by decide +kernel
theorem d_Desk_letter_52 : decode prog_1_method_8_code 52 = .ok (.invokevirtual 165, 3) := by decide +kernel
theorem d_Desk_letter_55 : decode prog_1_method_8_code 55 = .ok (.goto 15, 3) := by decide +kernel
theorem d_Desk_letter_58 : decode prog_1_method_8_code 58 = .ok (.aload_n 0, 1) := by decide +kernel
theorem d_Desk_letter_59 : decode prog_1_method_8_code 59 = .ok (.getfield 25, 3) := by decide +kernel
theorem d_Desk_letter_62 : decode prog_1_method_8_code 62 = .ok (.getfield 108, 3) := by decide +kernel
theorem d_Desk_letter_65 : decode prog_1_method_8_code 65 = .ok (.iload_n 1, 1) := by decide +kernel
theorem d_Desk_letter_66 : decode prog_1_method_8_code 66 = .ok (.iload_n 3, 1) := by decide +kernel
theorem d_Desk_letter_67 : decode prog_1_method_8_code 67 = .ok (.invokevirtual 165, 3) := by decide +kernel
theorem d_Desk_letter_70 : decode prog_1_method_8_code 70 = .ok (.ireturn, 1) := by decide +kernel
noncomputable def M_Desk_letter_b70 (s0 : Int32) (u : gSt) : Option ((Int32 × gSt)) :=
  some (s0, u)
set_option maxHeartbeats 4000000 in
set_option maxRecDepth 100000 in
theorem t_Desk_letter_b70 (C : gX "TermDesk" prog_1_method_8_code 4 (some .int) 2 46 R cells slots cy D ρ A p s m args meth c) {s0 : Int32} {u : gSt} {z : (Int32 × gSt)} (hM : M_Desk_letter_b70 s0 u = some z) (hR : gRtI p l e R s m args below meth c Q H0 cells slots cy D ρ A prog_1_method_8_code z.1 z.2) : gAt p l e R s m args below meth c Q H0 cells slots cy D ρ A 4 70 [] [.int s0] u := by
  intro ls H locs hl hP hS
  have hx := C.1
  have hb := C.2.1
  unfold M_Desk_letter_b70 at hM
  obtain rfl := Option.some.inj hM
  exact hR _ ls H locs d_Desk_letter_70 hP hS
noncomputable def M_Desk_letter_b39 (x1 : Int32) (x2 : Int32) (x3 : Int32) (u : gSt) : Option ((Int32 × gSt)) :=
  if x2 = (0 : Int32) then
    ((M_NameList_letterOf 5 x1 x3 u).bind fun q67 =>
    M_Desk_letter_b70 q67.1 q67.2)
  else
    ((M_NameList_letterOf 9 x1 x3 u).bind fun q52 =>
    M_Desk_letter_b70 q52.1 q52.2)
set_option maxHeartbeats 4000000 in
set_option maxRecDepth 100000 in
theorem t_Desk_letter_b39 (C : gX "TermDesk" prog_1_method_8_code 4 (some .int) 2 46 R cells slots cy D ρ A p s m args meth c) {x1 : Int32} {x2 : Int32} {x3 : Int32} {u : gSt} {z : (Int32 × gSt)} (hM : M_Desk_letter_b39 x1 x2 x3 u = some z) (hR : gRtI p l e R s m args below meth c Q H0 cells slots cy D ρ A prog_1_method_8_code z.1 z.2) : gAt p l e R s m args below meth c Q H0 cells slots cy D ρ A 4 39 [(0, .ref (ρ 0)), (1, .int x1), (2, .int x2), (3, .int x3)] [] u := by
  intro ls H locs hl hP hS
  have hx := C.1
  have hb := C.2.1
  unfold M_Desk_letter_b39 at hM
  refine lv_iload_n hx hb d_Desk_letter_39 rfl (lv_at hl 2 rfl) ?_
  refine lv_if_eq (tgt := 58) hx hb d_Desk_letter_40 (by decide) (fun hc40 => ?_) (fun hc40 => ?_)
  · replace hM := gi_t hc40 hM
    refine lv_aload_n hx hb d_Desk_letter_58 rfl (lv_at hl 0 rfl) ?_
    refine g_getR (b := 4) C hP gl_Desk_25 rfl rfl rfl d_Desk_letter_59 ?_
    refine g_getR (b := 5) C hP gl_Desk_108 rfl rfl rfl d_Desk_letter_62 ?_
    refine lv_iload_n hx hb d_Desk_letter_65 rfl (lv_at hl 1 rfl) ?_
    refine lv_iload_n hx hb d_Desk_letter_66 rfl (lv_at hl 3 rfl) ?_
    obtain ⟨q67, hq67, hM⟩ := gb_some hM
    refine g_backI (g_runV (As := [.int x1, .int x3]) C hP (c_NameList_letterOf C.2.2.2.2.2.2.2.2.1 hq67) gi_NameList_letterOf gm_Desk_165 rfl rfl (by decide) (by decide) hl.1 rfl (Nat.le_of_ble_eq_true rfl) d_Desk_letter_67) hS (fun H locs hP hS => ?_)
    exact t_Desk_letter_b70 C hM hR ls H locs (lv_sub hl [] rfl) hP hS
  · replace hM := gi_f hc40 hM
    refine lv_aload_n hx hb d_Desk_letter_43 rfl (lv_at hl 0 rfl) ?_
    refine g_getR (b := 4) C hP gl_Desk_25 rfl rfl rfl d_Desk_letter_44 ?_
    refine g_getR (b := 9) C hP gl_Desk_162 rfl rfl rfl d_Desk_letter_47 ?_
    refine lv_iload_n hx hb d_Desk_letter_50 rfl (lv_at hl 1 rfl) ?_
    refine lv_iload_n hx hb d_Desk_letter_51 rfl (lv_at hl 3 rfl) ?_
    obtain ⟨q52, hq52, hM⟩ := gb_some hM
    refine g_backI (g_runV (As := [.int x1, .int x3]) C hP (c_NameList_letterOf C.2.2.2.2.2.2.2.2.1 hq52) gi_NameList_letterOf gm_Desk_165 rfl rfl (by decide) (by decide) hl.1 rfl (Nat.le_of_ble_eq_true rfl) d_Desk_letter_52) hS (fun H locs hP hS => ?_)
    refine lv_goto (tgt := 70) hx hb d_Desk_letter_55 (by decide) ?_
    exact t_Desk_letter_b70 C hM hR ls H locs (lv_sub hl [] rfl) hP hS
noncomputable def M_Desk_letter_b29 (u : gSt) : Option ((Int32 × gSt)) :=
  none
set_option maxHeartbeats 4000000 in
set_option maxRecDepth 100000 in
theorem t_Desk_letter_b29 (C : gX "TermDesk" prog_1_method_8_code 4 (some .int) 2 46 R cells slots cy D ρ A p s m args meth c) {u : gSt} {z : (Int32 × gSt)} (hM : M_Desk_letter_b29 u = some z) (hR : gRtI p l e R s m args below meth c Q H0 cells slots cy D ρ A prog_1_method_8_code z.1 z.2) : gAt p l e R s m args below meth c Q H0 cells slots cy D ρ A 4 29 [] [] u := by
  intro ls H locs hl hP hS
  have hx := C.1
  have hb := C.2.1
  unfold M_Desk_letter_b29 at hM
  cases hM
noncomputable def M_Desk_letter (x1 : Int32) (x2 : Int32) (x3 : Int32) (u : gSt) : Option ((Int32 × gSt)) :=
  if x2 = (0 : Int32) then
    ((M_Board_hasTerm x1 u).bind fun q23 =>
    if q23.1 = (0 : Int32) then
      (M_Desk_letter_b29 q23.2)
    else
      (M_Desk_letter_b39 x1 x2 x3 q23.2))
  else
    ((M_Board_hasGene x1 u).bind fun q9 =>
    if q9.1 = (0 : Int32) then
      (M_Desk_letter_b29 q9.2)
    else
      (M_Desk_letter_b39 x1 x2 x3 q9.2))
set_option maxHeartbeats 4000000 in
set_option maxRecDepth 100000 in
theorem t_Desk_letter (C : gX "TermDesk" prog_1_method_8_code 4 (some .int) 2 46 R cells slots cy D ρ A p s m args meth c) {x1 : Int32} {x2 : Int32} {x3 : Int32} {u : gSt} {z : (Int32 × gSt)} (hM : M_Desk_letter x1 x2 x3 u = some z) (hR : gRtI p l e R s m args below meth c Q H0 cells slots cy D ρ A prog_1_method_8_code z.1 z.2) : gAt p l e R s m args below meth c Q H0 cells slots cy D ρ A 4 0 [(0, .ref (ρ 0)), (1, .int x1), (2, .int x2), (3, .int x3)] [] u := by
  intro ls H locs hl hP hS
  have hx := C.1
  have hb := C.2.1
  unfold M_Desk_letter at hM
  refine lv_iload_n hx hb d_Desk_letter_0 rfl (lv_at hl 2 rfl) ?_
  refine lv_if_eq (tgt := 18) hx hb d_Desk_letter_1 (by decide) (fun hc1 => ?_) (fun hc1 => ?_)
  · replace hM := gi_t hc1 hM
    refine lv_aload_n hx hb d_Desk_letter_18 rfl (lv_at hl 0 rfl) ?_
    refine g_getR (b := 4) C hP gl_Desk_25 rfl rfl rfl d_Desk_letter_19 ?_
    refine lv_iload_n hx hb d_Desk_letter_22 rfl (lv_at hl 1 rfl) ?_
    obtain ⟨q23, hq23, hM⟩ := gb_some hM
    refine g_backI (g_runV (As := [.int x1]) C hP (c_Board_hasTerm C.2.2.2.2.2.2.2.2.1 hq23) gi_Board_hasTerm gm_Desk_119 rfl rfl (by decide) (by decide) hl.1 rfl (Nat.le_of_ble_eq_true rfl) d_Desk_letter_23) hS (fun H locs hP hS => ?_)
    refine lv_if_ne (tgt := 39) hx hb d_Desk_letter_26 (by decide) (fun hc26 => ?_) (fun hc26 => ?_)
    · replace hM := gi_f hc26 hM
      exact t_Desk_letter_b39 C hM hR ls H locs (lv_sub hl [0, 1, 2, 3] rfl) hP hS
    · replace hM := gi_t hc26 hM
      exact t_Desk_letter_b29 C hM hR ls H locs (lv_sub hl [] rfl) hP hS
  · replace hM := gi_f hc1 hM
    refine lv_aload_n hx hb d_Desk_letter_4 rfl (lv_at hl 0 rfl) ?_
    refine g_getR (b := 4) C hP gl_Desk_25 rfl rfl rfl d_Desk_letter_5 ?_
    refine lv_iload_n hx hb d_Desk_letter_8 rfl (lv_at hl 1 rfl) ?_
    obtain ⟨q9, hq9, hM⟩ := gb_some hM
    refine g_backI (g_runV (As := [.int x1]) C hP (c_Board_hasGene C.2.2.2.2.2.2.2.2.1 hq9) gi_Board_hasGene gm_Desk_157 rfl rfl (by decide) (by decide) hl.1 rfl (Nat.le_of_ble_eq_true rfl) d_Desk_letter_9) hS (fun H locs hP hS => ?_)
    refine lv_if_ne (tgt := 39) hx hb d_Desk_letter_12 (by decide) (fun hc12 => ?_) (fun hc12 => ?_)
    · replace hM := gi_f hc12 hM
      exact t_Desk_letter_b39 C hM hR ls H locs (lv_sub hl [0, 1, 2, 3] rfl) hP hS
    · replace hM := gi_t hc12 hM
      refine lv_goto (tgt := 29) hx hb d_Desk_letter_15 (by decide) ?_
      exact t_Desk_letter_b29 C hM hR ls H locs (lv_sub hl [] rfl) hP hS
theorem c_Desk_letter {l : Launch} {cy : Nat → ClassId} {D : va_G} {ρ : Nat → Nat} {A : Nat → Prop} (hD : gD ρ A) {x1 : Int32} {x2 : Int32} {x3 : Int32} {u : gSt} {z : (Int32 × gSt)} (hM : M_Desk_letter x1 x2 x3 u = some z) : gCtI l y_Desk_letter prog_1_method_8_code 4 (some .int) 2 46 cy D ρ A [.ref (ρ 0), .int x1, .int x2, .int x3] u z.1 z.2 :=
  g_met (by decide) hD (Nat.le_of_ble_eq_true rfl) (fun p e s m below meth c ls X hl hP => t_Desk_letter X hM (fun pc ls H locs hd hP hS => g_iret X hP hS hd) ls _ [] hl hP va_S.rf)
end
section
variable {p : Program} {l : Launch} {e : Env} {R : Room} {s : State} {m : MethodId} {args : Array Value} {below : List Frame} {meth : Method} {c : Code} {Q : State → Prop} {H0 : Heap} {cells slots : Nat} {cy : Nat → ClassId} {D : va_G} {ρ : Nat → Nat} {A : Nat → Prop}
def y_Desk_isAbove : MethodName := ⟨"TermDesk", "isAbove", "(II)Z"⟩
theorem gi_Desk_isAbove : gMi y_Desk_isAbove prog_1_method_9_code 3 (some .boolean) 2 0 := ⟨(gWs_at 843 (by decide +kernel) (by decide +kernel)), (gWs_at 841 (by decide +kernel) (by decide +kernel)), (gWs_at 842 (by decide +kernel) (by decide +kernel)), (gWs_at 117 (by decide +kernel) (by decide +kernel)), ⟨by decide +kernel, by decide +kernel, by decide +kernel⟩, _, _, rfl⟩
theorem gm_Law_37 : gMk "TermDeskLaw" 37 y_Desk_isAbove := Or.inl (gWs_at 840 (by decide +kernel) (by decide +kernel))
theorem d_Desk_isAbove_0 : decode prog_1_method_9_code 0 = .ok (.aload_n 0, 1) := by decide +kernel
theorem d_Desk_isAbove_1 : decode prog_1_method_9_code 1 = .ok (.getfield 25, 3) := by decide +kernel
theorem d_Desk_isAbove_4 : decode prog_1_method_9_code 4 = .ok (.iload_n 1, 1) := by decide +kernel
theorem d_Desk_isAbove_5 : decode prog_1_method_9_code 5 = .ok (.invokevirtual 119, 3) := by decide +kernel
theorem d_Desk_isAbove_8 : decode prog_1_method_9_code 8 = .ok (.ifCond .eq 14, 3) := by decide +kernel
theorem d_Desk_isAbove_11 : decode prog_1_method_9_code 11 = .ok (.aload_n 0, 1) := by decide +kernel
theorem d_Desk_isAbove_12 : decode prog_1_method_9_code 12 = .ok (.getfield 25, 3) := by decide +kernel
theorem d_Desk_isAbove_15 : decode prog_1_method_9_code 15 = .ok (.iload_n 2, 1) := by decide +kernel
theorem d_Desk_isAbove_16 : decode prog_1_method_9_code 16 = .ok (.invokevirtual 119, 3) := by decide +kernel
theorem d_Desk_isAbove_19 : decode prog_1_method_9_code 19 = .ok (.ifCond .ne 13, 3) := by decide +kernel
theorem d_Desk_isAbove_22 : decode prog_1_method_9_code 22 = .ok (.new 123, 3) := by decide +kernel
theorem d_Desk_isAbove_32 : decode prog_1_method_9_code 32 = .ok (.aload_n 0, 1) := by decide +kernel
theorem d_Desk_isAbove_33 : decode prog_1_method_9_code 33 = .ok (.getfield 25, 3) := by decide +kernel
theorem d_Desk_isAbove_36 : decode prog_1_method_9_code 36 = .ok (.getfield 137, 3) := by decide +kernel
theorem d_Desk_isAbove_39 : decode prog_1_method_9_code 39 = .ok (.iload_n 2, 1) := by decide +kernel
theorem d_Desk_isAbove_40 : decode prog_1_method_9_code 40 = .ok (.iload_n 1, 1) := by decide +kernel
theorem d_Desk_isAbove_41 : decode prog_1_method_9_code 41 = .ok (.invokevirtual 169, 3) := by decide +kernel
theorem d_Desk_isAbove_44 : decode prog_1_method_9_code 44 = .ok (.ireturn, 1) := by decide +kernel
noncomputable def M_Desk_isAbove_b22 (u : gSt) : Option ((Int32 × gSt)) :=
  none
set_option maxHeartbeats 4000000 in
set_option maxRecDepth 100000 in
theorem t_Desk_isAbove_b22 (C : gX "TermDesk" prog_1_method_9_code 3 (some .boolean) 1 22 R cells slots cy D ρ A p s m args meth c) {u : gSt} {z : (Int32 × gSt)} (hM : M_Desk_isAbove_b22 u = some z) (hR : gRtZ p l e R s m args below meth c Q H0 cells slots cy D ρ A prog_1_method_9_code z.1 z.2) : gAt p l e R s m args below meth c Q H0 cells slots cy D ρ A 3 22 [] [] u := by
  intro ls H locs hl hP hS
  have hx := C.1
  have hb := C.2.1
  unfold M_Desk_isAbove_b22 at hM
  cases hM
noncomputable def M_Desk_isAbove (x1 : Int32) (x2 : Int32) (u : gSt) : Option ((Int32 × gSt)) :=
  (M_Board_hasTerm x1 u).bind fun q5 =>
  if q5.1 = (0 : Int32) then
    (M_Desk_isAbove_b22 q5.2)
  else
    ((M_Board_hasTerm x2 q5.2).bind fun q16 =>
    if q16.1 = (0 : Int32) then
      (M_Desk_isAbove_b22 q16.2)
    else
      ((M_Grid_has 15 x2 x1 q16.2).bind fun q41 =>
      gc (gZ q41.1) <| some (q41.1, q41.2)))
set_option maxHeartbeats 4000000 in
set_option maxRecDepth 100000 in
theorem t_Desk_isAbove (C : gX "TermDesk" prog_1_method_9_code 3 (some .boolean) 1 22 R cells slots cy D ρ A p s m args meth c) {x1 : Int32} {x2 : Int32} {u : gSt} {z : (Int32 × gSt)} (hM : M_Desk_isAbove x1 x2 u = some z) (hR : gRtZ p l e R s m args below meth c Q H0 cells slots cy D ρ A prog_1_method_9_code z.1 z.2) : gAt p l e R s m args below meth c Q H0 cells slots cy D ρ A 3 0 [(0, .ref (ρ 0)), (1, .int x1), (2, .int x2)] [] u := by
  intro ls H locs hl hP hS
  have hx := C.1
  have hb := C.2.1
  unfold M_Desk_isAbove at hM
  refine lv_aload_n hx hb d_Desk_isAbove_0 rfl (lv_at hl 0 rfl) ?_
  refine g_getR (b := 4) C hP gl_Desk_25 rfl rfl rfl d_Desk_isAbove_1 ?_
  refine lv_iload_n hx hb d_Desk_isAbove_4 rfl (lv_at hl 1 rfl) ?_
  obtain ⟨q5, hq5, hM⟩ := gb_some hM
  refine g_backI (g_runV (As := [.int x1]) C hP (c_Board_hasTerm C.2.2.2.2.2.2.2.2.1 hq5) gi_Board_hasTerm gm_Desk_119 rfl rfl (by decide) (by decide) hl.1 rfl (Nat.le_of_ble_eq_true rfl) d_Desk_isAbove_5) hS (fun H locs hP hS => ?_)
  refine lv_if_eq (tgt := 22) hx hb d_Desk_isAbove_8 (by decide) (fun hc8 => ?_) (fun hc8 => ?_)
  · replace hM := gi_t hc8 hM
    exact t_Desk_isAbove_b22 C hM hR ls H locs (lv_sub hl [] rfl) hP hS
  · replace hM := gi_f hc8 hM
    refine lv_aload_n hx hb d_Desk_isAbove_11 rfl (lv_at hl 0 rfl) ?_
    refine g_getR (b := 4) C hP gl_Desk_25 rfl rfl rfl d_Desk_isAbove_12 ?_
    refine lv_iload_n hx hb d_Desk_isAbove_15 rfl (lv_at hl 2 rfl) ?_
    obtain ⟨q16, hq16, hM⟩ := gb_some hM
    refine g_backI (g_runV (As := [.int x2]) C hP (c_Board_hasTerm C.2.2.2.2.2.2.2.2.1 hq16) gi_Board_hasTerm gm_Desk_119 rfl rfl (by decide) (by decide) hl.1 rfl (Nat.le_of_ble_eq_true rfl) d_Desk_isAbove_16) hS (fun H locs hP hS => ?_)
    refine lv_if_ne (tgt := 32) hx hb d_Desk_isAbove_19 (by decide) (fun hc19 => ?_) (fun hc19 => ?_)
    · replace hM := gi_f hc19 hM
      refine lv_aload_n hx hb d_Desk_isAbove_32 rfl (lv_at hl 0 rfl) ?_
      refine g_getR (b := 4) C hP gl_Desk_25 rfl rfl rfl d_Desk_isAbove_33 ?_
      refine g_getR (b := 15) C hP gl_Desk_137 rfl rfl rfl d_Desk_isAbove_36 ?_
      refine lv_iload_n hx hb d_Desk_isAbove_39 rfl (lv_at hl 2 rfl) ?_
      refine lv_iload_n hx hb d_Desk_isAbove_40 rfl (lv_at hl 1 rfl) ?_
      obtain ⟨q41, hq41, hM⟩ := gb_some hM
      refine g_backI (g_runV (As := [.int x2, .int x1]) C hP (c_Grid_has C.2.2.2.2.2.2.2.2.1 hq41) gi_Grid_has gm_Desk_169 rfl rfl (by decide) (by decide) hl.1 rfl (Nat.le_of_ble_eq_true rfl) d_Desk_isAbove_41) hS (fun H locs hP hS => ?_)
      obtain ⟨hz44, hM⟩ := gc_some hM
      obtain rfl := Option.some.inj hM
      exact hR _ ls H locs hz44 d_Desk_isAbove_44 hP hS
    · replace hM := gi_t hc19 hM
      exact t_Desk_isAbove_b22 C hM hR ls H locs (lv_sub hl [] rfl) hP hS
theorem c_Desk_isAbove {l : Launch} {cy : Nat → ClassId} {D : va_G} {ρ : Nat → Nat} {A : Nat → Prop} (hD : gD ρ A) {x1 : Int32} {x2 : Int32} {u : gSt} {z : (Int32 × gSt)} (hM : M_Desk_isAbove x1 x2 u = some z) : gCtI l y_Desk_isAbove prog_1_method_9_code 3 (some .boolean) 1 22 cy D ρ A [.ref (ρ 0), .int x1, .int x2] u z.1 z.2 :=
  g_met (by decide) hD (Nat.le_of_ble_eq_true rfl) (fun p e s m below meth c ls X hl hP => t_Desk_isAbove X hM (fun pc ls H locs hz hd hP hS => g_zret X hP hS hz hd) ls _ [] hl hP va_S.rf)
end
section
variable {p : Program} {l : Launch} {e : Env} {R : Room} {s : State} {m : MethodId} {args : Array Value} {below : List Frame} {meth : Method} {c : Code} {Q : State → Prop} {H0 : Heap} {cells slots : Nat} {cy : Nat → ClassId} {D : va_G} {ρ : Nat → Nat} {A : Nat → Prop}
def y_Desk_isAt : MethodName := ⟨"TermDesk", "isAt", "(II)Z"⟩
theorem gi_Desk_isAt : gMi y_Desk_isAt prog_1_method_10_code 3 (some .boolean) 2 0 := ⟨(gWs_at 851 (by decide +kernel) (by decide +kernel)), (gWs_at 849 (by decide +kernel) (by decide +kernel)), (gWs_at 850 (by decide +kernel) (by decide +kernel)), (gWs_at 117 (by decide +kernel) (by decide +kernel)), ⟨by decide +kernel, by decide +kernel, by decide +kernel⟩, _, _, rfl⟩
theorem gm_Law_41 : gMk "TermDeskLaw" 41 y_Desk_isAt := Or.inl (gWs_at 848 (by decide +kernel) (by decide +kernel))
theorem d_Desk_isAt_0 : decode prog_1_method_10_code 0 = .ok (.aload_n 0, 1) := by decide +kernel
theorem d_Desk_isAt_1 : decode prog_1_method_10_code 1 = .ok (.getfield 25, 3) := by decide +kernel
theorem d_Desk_isAt_4 : decode prog_1_method_10_code 4 = .ok (.iload_n 1, 1) := by decide +kernel
theorem d_Desk_isAt_5 : decode prog_1_method_10_code 5 = .ok (.invokevirtual 157, 3) := by decide +kernel
theorem d_Desk_isAt_8 : decode prog_1_method_10_code 8 = .ok (.ifCond .eq 14, 3) := by decide +kernel
theorem d_Desk_isAt_11 : decode prog_1_method_10_code 11 = .ok (.aload_n 0, 1) := by decide +kernel
theorem d_Desk_isAt_12 : decode prog_1_method_10_code 12 = .ok (.getfield 25, 3) := by decide +kernel
theorem d_Desk_isAt_15 : decode prog_1_method_10_code 15 = .ok (.iload_n 2, 1) := by decide +kernel
theorem d_Desk_isAt_16 : decode prog_1_method_10_code 16 = .ok (.invokevirtual 119, 3) := by decide +kernel
theorem d_Desk_isAt_19 : decode prog_1_method_10_code 19 = .ok (.ifCond .ne 13, 3) := by decide +kernel
theorem d_Desk_isAt_22 : decode prog_1_method_10_code 22 = .ok (.new 123, 3) := by decide +kernel
theorem d_Desk_isAt_32 : decode prog_1_method_10_code 32 = .ok (.aload_n 0, 1) := by decide +kernel
theorem d_Desk_isAt_33 : decode prog_1_method_10_code 33 = .ok (.getfield 25, 3) := by decide +kernel
theorem d_Desk_isAt_36 : decode prog_1_method_10_code 36 = .ok (.getfield 175, 3) := by decide +kernel
theorem d_Desk_isAt_39 : decode prog_1_method_10_code 39 = .ok (.iload_n 2, 1) := by decide +kernel
theorem d_Desk_isAt_40 : decode prog_1_method_10_code 40 = .ok (.iload_n 1, 1) := by decide +kernel
theorem d_Desk_isAt_41 : decode prog_1_method_10_code 41 = .ok (.invokevirtual 169, 3) := by decide +kernel
theorem d_Desk_isAt_44 : decode prog_1_method_10_code 44 = .ok (.ireturn, 1) := by decide +kernel
noncomputable def M_Desk_isAt_b22 (u : gSt) : Option ((Int32 × gSt)) :=
  none
set_option maxHeartbeats 4000000 in
set_option maxRecDepth 100000 in
theorem t_Desk_isAt_b22 (C : gX "TermDesk" prog_1_method_10_code 3 (some .boolean) 2 41 R cells slots cy D ρ A p s m args meth c) {u : gSt} {z : (Int32 × gSt)} (hM : M_Desk_isAt_b22 u = some z) (hR : gRtZ p l e R s m args below meth c Q H0 cells slots cy D ρ A prog_1_method_10_code z.1 z.2) : gAt p l e R s m args below meth c Q H0 cells slots cy D ρ A 3 22 [] [] u := by
  intro ls H locs hl hP hS
  have hx := C.1
  have hb := C.2.1
  unfold M_Desk_isAt_b22 at hM
  cases hM
noncomputable def M_Desk_isAt (x1 : Int32) (x2 : Int32) (u : gSt) : Option ((Int32 × gSt)) :=
  (M_Board_hasGene x1 u).bind fun q5 =>
  if q5.1 = (0 : Int32) then
    (M_Desk_isAt_b22 q5.2)
  else
    ((M_Board_hasTerm x2 q5.2).bind fun q16 =>
    if q16.1 = (0 : Int32) then
      (M_Desk_isAt_b22 q16.2)
    else
      ((M_Grid_has 19 x2 x1 q16.2).bind fun q41 =>
      gc (gZ q41.1) <| some (q41.1, q41.2)))
set_option maxHeartbeats 4000000 in
set_option maxRecDepth 100000 in
theorem t_Desk_isAt (C : gX "TermDesk" prog_1_method_10_code 3 (some .boolean) 2 41 R cells slots cy D ρ A p s m args meth c) {x1 : Int32} {x2 : Int32} {u : gSt} {z : (Int32 × gSt)} (hM : M_Desk_isAt x1 x2 u = some z) (hR : gRtZ p l e R s m args below meth c Q H0 cells slots cy D ρ A prog_1_method_10_code z.1 z.2) : gAt p l e R s m args below meth c Q H0 cells slots cy D ρ A 3 0 [(0, .ref (ρ 0)), (1, .int x1), (2, .int x2)] [] u := by
  intro ls H locs hl hP hS
  have hx := C.1
  have hb := C.2.1
  unfold M_Desk_isAt at hM
  refine lv_aload_n hx hb d_Desk_isAt_0 rfl (lv_at hl 0 rfl) ?_
  refine g_getR (b := 4) C hP gl_Desk_25 rfl rfl rfl d_Desk_isAt_1 ?_
  refine lv_iload_n hx hb d_Desk_isAt_4 rfl (lv_at hl 1 rfl) ?_
  obtain ⟨q5, hq5, hM⟩ := gb_some hM
  refine g_backI (g_runV (As := [.int x1]) C hP (c_Board_hasGene C.2.2.2.2.2.2.2.2.1 hq5) gi_Board_hasGene gm_Desk_157 rfl rfl (by decide) (by decide) hl.1 rfl (Nat.le_of_ble_eq_true rfl) d_Desk_isAt_5) hS (fun H locs hP hS => ?_)
  refine lv_if_eq (tgt := 22) hx hb d_Desk_isAt_8 (by decide) (fun hc8 => ?_) (fun hc8 => ?_)
  · replace hM := gi_t hc8 hM
    exact t_Desk_isAt_b22 C hM hR ls H locs (lv_sub hl [] rfl) hP hS
  · replace hM := gi_f hc8 hM
    refine lv_aload_n hx hb d_Desk_isAt_11 rfl (lv_at hl 0 rfl) ?_
    refine g_getR (b := 4) C hP gl_Desk_25 rfl rfl rfl d_Desk_isAt_12 ?_
    refine lv_iload_n hx hb d_Desk_isAt_15 rfl (lv_at hl 2 rfl) ?_
    obtain ⟨q16, hq16, hM⟩ := gb_some hM
    refine g_backI (g_runV (As := [.int x2]) C hP (c_Board_hasTerm C.2.2.2.2.2.2.2.2.1 hq16) gi_Board_hasTerm gm_Desk_119 rfl rfl (by decide) (by decide) hl.1 rfl (Nat.le_of_ble_eq_true rfl) d_Desk_isAt_16) hS (fun H locs hP hS => ?_)
    refine lv_if_ne (tgt := 32) hx hb d_Desk_isAt_19 (by decide) (fun hc19 => ?_) (fun hc19 => ?_)
    · replace hM := gi_f hc19 hM
      refine lv_aload_n hx hb d_Desk_isAt_32 rfl (lv_at hl 0 rfl) ?_
      refine g_getR (b := 4) C hP gl_Desk_25 rfl rfl rfl d_Desk_isAt_33 ?_
      refine g_getR (b := 19) C hP gl_Desk_175 rfl rfl rfl d_Desk_isAt_36 ?_
      refine lv_iload_n hx hb d_Desk_isAt_39 rfl (lv_at hl 2 rfl) ?_
      refine lv_iload_n hx hb d_Desk_isAt_40 rfl (lv_at hl 1 rfl) ?_
      obtain ⟨q41, hq41, hM⟩ := gb_some hM
      refine g_backI (g_runV (As := [.int x2, .int x1]) C hP (c_Grid_has C.2.2.2.2.2.2.2.2.1 hq41) gi_Grid_has gm_Desk_169 rfl rfl (by decide) (by decide) hl.1 rfl (Nat.le_of_ble_eq_true rfl) d_Desk_isAt_41) hS (fun H locs hP hS => ?_)
      obtain ⟨hz44, hM⟩ := gc_some hM
      obtain rfl := Option.some.inj hM
      exact hR _ ls H locs hz44 d_Desk_isAt_44 hP hS
    · replace hM := gi_t hc19 hM
      exact t_Desk_isAt_b22 C hM hR ls H locs (lv_sub hl [] rfl) hP hS
theorem c_Desk_isAt {l : Launch} {cy : Nat → ClassId} {D : va_G} {ρ : Nat → Nat} {A : Nat → Prop} (hD : gD ρ A) {x1 : Int32} {x2 : Int32} {u : gSt} {z : (Int32 × gSt)} (hM : M_Desk_isAt x1 x2 u = some z) : gCtI l y_Desk_isAt prog_1_method_10_code 3 (some .boolean) 2 41 cy D ρ A [.ref (ρ 0), .int x1, .int x2] u z.1 z.2 :=
  g_met (by decide) hD (Nat.le_of_ble_eq_true rfl) (fun p e s m below meth c ls X hl hP => t_Desk_isAt X hM (fun pc ls H locs hz hd hP hS => g_zret X hP hS hz hd) ls _ [] hl hP va_S.rf)
end
section
variable {p : Program} {l : Launch} {e : Env} {R : Room} {s : State} {m : MethodId} {args : Array Value} {below : List Frame} {meth : Method} {c : Code} {Q : State → Prop} {H0 : Heap} {cells slots : Nat} {cy : Nat → ClassId} {D : va_G} {ρ : Nat → Nat} {A : Nat → Prop}
def y_Desk_report : MethodName := ⟨"TermDesk", "report", "(III)I"⟩
theorem gi_Desk_report : gMi y_Desk_report prog_1_method_11_code 4 (some .int) 3 0 := ⟨(gWs_at 859 (by decide +kernel) (by decide +kernel)), (gWs_at 857 (by decide +kernel) (by decide +kernel)), (gWs_at 858 (by decide +kernel) (by decide +kernel)), (gWs_at 117 (by decide +kernel) (by decide +kernel)), ⟨by decide +kernel, by decide +kernel, by decide +kernel⟩, _, _, rfl⟩
theorem gm_Law_44 : gMk "TermDeskLaw" 44 y_Desk_report := Or.inl (gWs_at 856 (by decide +kernel) (by decide +kernel))
theorem d_Desk_report_0 : decode prog_1_method_11_code 0 = .ok (.iload_n 1, 1) := by decide +kernel
theorem d_Desk_report_1 : decode prog_1_method_11_code 1 = .ok (.ifCond .lt 17, 3) := by decide +kernel
theorem d_Desk_report_4 : decode prog_1_method_11_code 4 = .ok (.iload_n 1, 1) := by decide +kernel
theorem d_Desk_report_5 : decode prog_1_method_11_code 5 = .ok (.iconst 4, 1) := by decide +kernel
theorem d_Desk_report_6 : decode prog_1_method_11_code 6 = .ok (.if_icmp .ge 12, 3) := by decide +kernel
theorem d_Desk_report_9 : decode prog_1_method_11_code 9 = .ok (.iload_n 2, 1) := by decide +kernel
theorem d_Desk_report_10 : decode prog_1_method_11_code 10 = .ok (.ifCond .lt 8, 3) := by decide +kernel
theorem d_Desk_report_13 : decode prog_1_method_11_code 13 = .ok (.iload_n 3, 1) := by decide +kernel
theorem d_Desk_report_14 : decode prog_1_method_11_code 14 = .ok (.iconst 1, 1) := by decide +kernel
theorem d_Desk_report_15 : decode prog_1_method_11_code 15 = .ok (.if_icmp .ge 13, 3) := by decide +kernel
theorem d_Desk_report_18 : decode prog_1_method_11_code 18 = .ok (.new 68, 3) := by decide +kernel
theorem d_Desk_report_28 : decode prog_1_method_11_code 28 = .ok (.aload_n 0, 1) := by decide +kernel
theorem d_Desk_report_29 : decode prog_1_method_11_code 29 = .ok (.getfield 47, 3) := by decide +kernel
theorem d_Desk_report_32 : decode prog_1_method_11_code 32 = .ok (.ifCond .ne 19, 3) := by decide +kernel
theorem d_Desk_report_35 : decode prog_1_method_11_code 35 = .ok (.aload_n 0, 1) := by decide +kernel
theorem d_Desk_report_36 : decode prog_1_method_11_code 36 = .ok (.getfield 29, 3) := by decide +kernel
theorem d_Desk_report_39 : decode prog_1_method_11_code 39 = .ok (.aload_n 0, 1) := by decide +kernel
theorem d_Desk_report_40 : decode prog_1_method_11_code 40 = .ok (.getfield 25, 3) := by decide +kernel
theorem d_Desk_report_43 : decode prog_1_method_11_code 43 = .ok (.invokevirtual 180, 3) := by decide +kernel
theorem d_Desk_report_46 : decode prog_1_method_11_code 46 = .ok (.aload_n 0, 1) := by decide +kernel
theorem d_Desk_report_47 : decode prog_1_method_11_code 47 = .ok (.iconst 1, 1) := by decide +kernel
theorem d_Desk_report_48 : decode prog_1_method_11_code 48 = .ok (.putfield 47, 3) := by decide +kernel
theorem d_Desk_report_51 : decode prog_1_method_11_code 51 = .ok (.aload_n 0, 1) := by decide +kernel
theorem d_Desk_report_52 : decode prog_1_method_11_code 52 = .ok (.getfield 29, 3) := by decide +kernel
theorem d_Desk_report_55 : decode prog_1_method_11_code 55 = .ok (.iload_n 1, 1) := by decide +kernel
theorem d_Desk_report_56 : decode prog_1_method_11_code 56 = .ok (.iload_n 2, 1) := by decide +kernel
theorem d_Desk_report_57 : decode prog_1_method_11_code 57 = .ok (.iload_n 3, 1) := by decide +kernel
theorem d_Desk_report_58 : decode prog_1_method_11_code 58 = .ok (.invokevirtual 184, 3) := by decide +kernel
theorem d_Desk_report_61 : decode prog_1_method_11_code 61 = .ok (.aload_n 0, 1) := by decide +kernel
theorem d_Desk_report_62 : decode prog_1_method_11_code 62 = .ok (.getfield 29, 3) := by decide +kernel
theorem d_Desk_report_65 : decode prog_1_method_11_code 65 = .ok (.getfield 99, 3) := by decide +kernel
theorem d_Desk_report_68 : decode prog_1_method_11_code 68 = .ok (.ireturn, 1) := by decide +kernel
noncomputable def M_Desk_report_b18 (u : gSt) : Option ((Int32 × gSt)) :=
  none
set_option maxHeartbeats 4000000 in
set_option maxRecDepth 100000 in
theorem t_Desk_report_b18 (C : gX "TermDesk" prog_1_method_11_code 4 (some .int) 6 155 R cells slots cy D ρ A p s m args meth c) {u : gSt} {z : (Int32 × gSt)} (hM : M_Desk_report_b18 u = some z) (hR : gRtI p l e R s m args below meth c Q H0 cells slots cy D ρ A prog_1_method_11_code z.1 z.2) : gAt p l e R s m args below meth c Q H0 cells slots cy D ρ A 4 18 [] [] u := by
  intro ls H locs hl hP hS
  have hx := C.1
  have hb := C.2.1
  unfold M_Desk_report_b18 at hM
  cases hM
noncomputable def M_Desk_report_b51 (x1 : Int32) (x2 : Int32) (x3 : Int32) (u : gSt) : Option ((Int32 × gSt)) :=
  (M_Ranking_chooseRows x1 x2 x3 u).bind fun q58 =>
  some (q58.1 27 13, q58)
set_option maxHeartbeats 4000000 in
set_option maxRecDepth 100000 in
theorem t_Desk_report_b51 (C : gX "TermDesk" prog_1_method_11_code 4 (some .int) 6 155 R cells slots cy D ρ A p s m args meth c) {x1 : Int32} {x2 : Int32} {x3 : Int32} {u : gSt} {z : (Int32 × gSt)} (hM : M_Desk_report_b51 x1 x2 x3 u = some z) (hR : gRtI p l e R s m args below meth c Q H0 cells slots cy D ρ A prog_1_method_11_code z.1 z.2) : gAt p l e R s m args below meth c Q H0 cells slots cy D ρ A 4 51 [(0, .ref (ρ 0)), (1, .int x1), (2, .int x2), (3, .int x3)] [] u := by
  intro ls H locs hl hP hS
  have hx := C.1
  have hb := C.2.1
  unfold M_Desk_report_b51 at hM
  refine lv_aload_n hx hb d_Desk_report_51 rfl (lv_at hl 0 rfl) ?_
  refine g_getR (b := 27) C hP gl_Desk_29 rfl rfl rfl d_Desk_report_52 ?_
  refine lv_iload_n hx hb d_Desk_report_55 rfl (lv_at hl 1 rfl) ?_
  refine lv_iload_n hx hb d_Desk_report_56 rfl (lv_at hl 2 rfl) ?_
  refine lv_iload_n hx hb d_Desk_report_57 rfl (lv_at hl 3 rfl) ?_
  obtain ⟨q58, hq58, hM⟩ := gb_some hM
  refine g_backV (g_runV (As := [.int x1, .int x2, .int x3]) C hP (c_Ranking_chooseRows C.2.2.2.2.2.2.2.2.1 hq58) gi_Ranking_chooseRows gm_Desk_184 rfl rfl (by decide) (by decide) hl.1 rfl (Nat.le_of_ble_eq_true rfl) d_Desk_report_58) hS (fun H locs hP hS => ?_)
  refine lv_aload_n hx hb d_Desk_report_61 rfl (lv_at hl 0 rfl) ?_
  refine g_getR (b := 27) C hP gl_Desk_29 rfl rfl rfl d_Desk_report_62 ?_
  refine g_getI C hP gl_Desk_99 rfl rfl d_Desk_report_65 ?_
  obtain rfl := Option.some.inj hM
  exact hR _ ls H locs d_Desk_report_68 hP hS
noncomputable def M_Desk_report (x1 : Int32) (x2 : Int32) (x3 : Int32) (u : gSt) : Option ((Int32 × gSt)) :=
  if x1 < (0 : Int32) then
    (M_Desk_report_b18 u)
  else
    (if (4 : Int32) ≤ x1 then
      (M_Desk_report_b18 u)
    else
      (if x2 < (0 : Int32) then
        (M_Desk_report_b18 u)
      else
        (if (1 : Int32) ≤ x3 then
          (if (u.1 0 7) = (0 : Int32) then
            ((M_Ranking_rank u).bind fun q43 =>
            (some (gsF q43 0 7 (1 : Int32))).bind fun u48 =>
            M_Desk_report_b51 x1 x2 x3 u48)
          else
            (M_Desk_report_b51 x1 x2 x3 u))
        else
          (M_Desk_report_b18 u))))
set_option maxHeartbeats 4000000 in
set_option maxRecDepth 100000 in
theorem t_Desk_report (C : gX "TermDesk" prog_1_method_11_code 4 (some .int) 6 155 R cells slots cy D ρ A p s m args meth c) {x1 : Int32} {x2 : Int32} {x3 : Int32} {u : gSt} {z : (Int32 × gSt)} (hM : M_Desk_report x1 x2 x3 u = some z) (hR : gRtI p l e R s m args below meth c Q H0 cells slots cy D ρ A prog_1_method_11_code z.1 z.2) : gAt p l e R s m args below meth c Q H0 cells slots cy D ρ A 4 0 [(0, .ref (ρ 0)), (1, .int x1), (2, .int x2), (3, .int x3)] [] u := by
  intro ls H locs hl hP hS
  have hx := C.1
  have hb := C.2.1
  unfold M_Desk_report at hM
  refine lv_iload_n hx hb d_Desk_report_0 rfl (lv_at hl 1 rfl) ?_
  refine lv_if_lt (tgt := 18) hx hb d_Desk_report_1 (by decide) (fun hc1 => ?_) (fun hc1 => ?_)
  · replace hM := gi_t hc1 hM
    exact t_Desk_report_b18 C hM hR ls H locs (lv_sub hl [] rfl) hP hS
  · replace hM := gi_f hc1 hM
    refine lv_iload_n hx hb d_Desk_report_4 rfl (lv_at hl 1 rfl) ?_
    refine lv_iconst (v := (4 : Int32)) hx hb d_Desk_report_5 (by decide) ?_
    refine lv_icmp_ge (tgt := 18) hx hb d_Desk_report_6 (by decide) (fun hc6 => ?_) (fun hc6 => ?_)
    · replace hM := gi_t hc6 hM
      exact t_Desk_report_b18 C hM hR ls H locs (lv_sub hl [] rfl) hP hS
    · replace hM := gi_f hc6 hM
      refine lv_iload_n hx hb d_Desk_report_9 rfl (lv_at hl 2 rfl) ?_
      refine lv_if_lt (tgt := 18) hx hb d_Desk_report_10 (by decide) (fun hc10 => ?_) (fun hc10 => ?_)
      · replace hM := gi_t hc10 hM
        exact t_Desk_report_b18 C hM hR ls H locs (lv_sub hl [] rfl) hP hS
      · replace hM := gi_f hc10 hM
        refine lv_iload_n hx hb d_Desk_report_13 rfl (lv_at hl 3 rfl) ?_
        refine lv_iconst (v := (1 : Int32)) hx hb d_Desk_report_14 (by decide) ?_
        refine lv_icmp_ge (tgt := 28) hx hb d_Desk_report_15 (by decide) (fun hc15 => ?_) (fun hc15 => ?_)
        · replace hM := gi_t hc15 hM
          refine lv_aload_n hx hb d_Desk_report_28 rfl (lv_at hl 0 rfl) ?_
          refine g_getI C hP gl_Desk_47 rfl rfl d_Desk_report_29 ?_
          refine lv_if_ne (tgt := 51) hx hb d_Desk_report_32 (by decide) (fun hc32 => ?_) (fun hc32 => ?_)
          · replace hM := gi_f hc32 hM
            exact t_Desk_report_b51 C hM hR ls H locs (lv_sub hl [0, 1, 2, 3] rfl) hP hS
          · replace hM := gi_t hc32 hM
            refine lv_aload_n hx hb d_Desk_report_35 rfl (lv_at hl 0 rfl) ?_
            refine g_getR (b := 27) C hP gl_Desk_29 rfl rfl rfl d_Desk_report_36 ?_
            refine lv_aload_n hx hb d_Desk_report_39 rfl (lv_at hl 0 rfl) ?_
            refine g_getR (b := 4) C hP gl_Desk_25 rfl rfl rfl d_Desk_report_40 ?_
            obtain ⟨q43, hq43, hM⟩ := gb_some hM
            refine g_backV (g_runV (As := [.ref (ρ 4)]) C hP (c_Ranking_rank C.2.2.2.2.2.2.2.2.1 hq43) gi_Ranking_rank gm_Desk_180 rfl rfl (by decide) (by decide) hl.1 rfl (Nat.le_of_ble_eq_true rfl) d_Desk_report_43) hS (fun H locs hP hS => ?_)
            refine lv_aload_n hx hb d_Desk_report_46 rfl (lv_at hl 0 rfl) ?_
            refine lv_iconst (v := (1 : Int32)) hx hb d_Desk_report_47 (by decide) ?_
            obtain ⟨u48, e48, hM⟩ := gb_some hM
            refine g_putZ C hP hS gl_Desk_47 rfl rfl gq_0_7 rfl d_Desk_report_48 (fun H locs hP hS => ?_)
            rw [Option.some.inj e48] at hP
            exact t_Desk_report_b51 C hM hR ls H locs (lv_sub hl [0, 1, 2, 3] rfl) hP hS
        · replace hM := gi_f hc15 hM
          exact t_Desk_report_b18 C hM hR ls H locs (lv_sub hl [] rfl) hP hS
theorem c_Desk_report {l : Launch} {cy : Nat → ClassId} {D : va_G} {ρ : Nat → Nat} {A : Nat → Prop} (hD : gD ρ A) {x1 : Int32} {x2 : Int32} {x3 : Int32} {u : gSt} {z : (Int32 × gSt)} (hM : M_Desk_report x1 x2 x3 u = some z) : gCtI l y_Desk_report prog_1_method_11_code 4 (some .int) 6 155 cy D ρ A [.ref (ρ 0), .int x1, .int x2, .int x3] u z.1 z.2 :=
  g_met (by decide) hD (Nat.le_of_ble_eq_true rfl) (fun p e s m below meth c ls X hl hP => t_Desk_report X hM (fun pc ls H locs hd hP hS => g_iret X hP hS hd) ls _ [] hl hP va_S.rf)
end
section
variable {p : Program} {l : Launch} {e : Env} {R : Room} {s : State} {m : MethodId} {args : Array Value} {below : List Frame} {meth : Method} {c : Code} {Q : State → Prop} {H0 : Heap} {cells slots : Nat} {cy : Nat → ClassId} {D : va_G} {ρ : Nat → Nat} {A : Nat → Prop}
def y_Desk_row : MethodName := ⟨"TermDesk", "row", "(II)I"⟩
theorem gi_Desk_row : gMi y_Desk_row prog_1_method_12_code 4 (some .int) 2 0 := ⟨(gWs_at 957 (by decide +kernel) (by decide +kernel)), (gWs_at 955 (by decide +kernel) (by decide +kernel)), (gWs_at 956 (by decide +kernel) (by decide +kernel)), (gWs_at 117 (by decide +kernel) (by decide +kernel)), ⟨by decide +kernel, by decide +kernel, by decide +kernel⟩, _, _, rfl⟩
theorem gm_Law_48 : gMk "TermDeskLaw" 48 y_Desk_row := Or.inl (gWs_at 954 (by decide +kernel) (by decide +kernel))
theorem d_Desk_row_0 : decode prog_1_method_12_code 0 = .ok (.aload_n 0, 1) := by decide +kernel
theorem d_Desk_row_1 : decode prog_1_method_12_code 1 = .ok (.getfield 29, 3) := by decide +kernel
theorem d_Desk_row_4 : decode prog_1_method_12_code 4 = .ok (.iload_n 1, 1) := by decide +kernel
theorem d_Desk_row_5 : decode prog_1_method_12_code 5 = .ok (.invokevirtual 188, 3) := by decide +kernel
theorem d_Desk_row_8 : decode prog_1_method_12_code 8 = .ok (.ifCond .ne 13, 3) := by decide +kernel
theorem d_Desk_row_11 : decode prog_1_method_12_code 11 = .ok (.new 123, 3) := by decide +kernel
theorem d_Desk_row_21 : decode prog_1_method_12_code 21 = .ok (.aload_n 0, 1) := by decide +kernel
theorem d_Desk_row_22 : decode prog_1_method_12_code 22 = .ok (.getfield 29, 3) := by decide +kernel
theorem d_Desk_row_25 : decode prog_1_method_12_code 25 = .ok (.getfield 193, 3) := by decide +kernel
theorem d_Desk_row_28 : decode prog_1_method_12_code 28 = .ok (.iload_n 1, 1) := by decide +kernel
theorem d_Desk_row_29 : decode prog_1_method_12_code 29 = .ok (.iaload, 1) := by decide +kernel
theorem d_Desk_row_30 : decode prog_1_method_12_code 30 = .ok (.istore_n 3, 1) := by decide +kernel
theorem d_Desk_row_31 : decode prog_1_method_12_code 31 = .ok (.iload_n 2, 1) := by decide +kernel
theorem d_Desk_row_32 : decode prog_1_method_12_code 32 = .ok (.tableswitch 82 0 4 #[36, 46, 56, 64, 74], 36) := by decide +kernel
theorem d_Desk_row_68 : decode prog_1_method_12_code 68 = .ok (.aload_n 0, 1) := by decide +kernel
theorem d_Desk_row_69 : decode prog_1_method_12_code 69 = .ok (.getfield 29, 3) := by decide +kernel
theorem d_Desk_row_72 : decode prog_1_method_12_code 72 = .ok (.getfield 197, 3) := by decide +kernel
theorem d_Desk_row_75 : decode prog_1_method_12_code 75 = .ok (.iload_n 3, 1) := by decide +kernel
theorem d_Desk_row_76 : decode prog_1_method_12_code 76 = .ok (.iaload, 1) := by decide +kernel
theorem d_Desk_row_77 : decode prog_1_method_12_code 77 = .ok (.ireturn, 1) := by decide +kernel
theorem d_Desk_row_78 : decode prog_1_method_12_code 78 = .ok (.aload_n 0, 1) := by decide +kernel
theorem d_Desk_row_79 : decode prog_1_method_12_code 79 = .ok (.getfield 29, 3) := by decide +kernel
theorem d_Desk_row_82 : decode prog_1_method_12_code 82 = .ok (.getfield 200, 3) := by decide +kernel
theorem d_Desk_row_85 : decode prog_1_method_12_code 85 = .ok (.iload_n 3, 1) := by decide +kernel
theorem d_Desk_row_86 : decode prog_1_method_12_code 86 = .ok (.iaload, 1) := by decide +kernel
theorem d_Desk_row_87 : decode prog_1_method_12_code 87 = .ok (.ireturn, 1) := by decide +kernel
theorem d_Desk_row_88 : decode prog_1_method_12_code 88 = .ok (.aload_n 0, 1) := by decide +kernel
theorem d_Desk_row_89 : decode prog_1_method_12_code 89 = .ok (.getfield 29, 3) := by decide +kernel
theorem d_Desk_row_92 : decode prog_1_method_12_code 92 = .ok (.getfield 203, 3) := by decide +kernel
theorem d_Desk_row_95 : decode prog_1_method_12_code 95 = .ok (.ireturn, 1) := by decide +kernel
theorem d_Desk_row_96 : decode prog_1_method_12_code 96 = .ok (.aload_n 0, 1) := by decide +kernel
theorem d_Desk_row_97 : decode prog_1_method_12_code 97 = .ok (.getfield 29, 3) := by decide +kernel
theorem d_Desk_row_100 : decode prog_1_method_12_code 100 = .ok (.getfield 205, 3) := by decide +kernel
theorem d_Desk_row_103 : decode prog_1_method_12_code 103 = .ok (.iload_n 3, 1) := by decide +kernel
theorem d_Desk_row_104 : decode prog_1_method_12_code 104 = .ok (.iaload, 1) := by decide +kernel
theorem d_Desk_row_105 : decode prog_1_method_12_code 105 = .ok (.ireturn, 1) := by decide +kernel
theorem d_Desk_row_106 : decode prog_1_method_12_code 106 = .ok (.aload_n 0, 1) := by decide +kernel
theorem d_Desk_row_107 : decode prog_1_method_12_code 107 = .ok (.getfield 29, 3) := by decide +kernel
theorem d_Desk_row_110 : decode prog_1_method_12_code 110 = .ok (.getfield 208, 3) := by decide +kernel
theorem d_Desk_row_113 : decode prog_1_method_12_code 113 = .ok (.ireturn, 1) := by decide +kernel
theorem d_Desk_row_114 : decode prog_1_method_12_code 114 = .ok (.new 68, 3) := by decide +kernel
noncomputable def M_Desk_row (x1 : Int32) (x2 : Int32) (u : gSt) : Option ((Int32 × gSt)) :=
  (M_Ranking_hasRow x1 u).bind fun q5 =>
  if q5.1 = (0 : Int32) then
    (none)
  else
    (gc (gIn x1 (gLen 35)) <| if x2 = (0 : Int32) then
      (gc (gIn (q5.2.2.2.1 35 (gIx x1)) (gLen 28)) <| some (q5.2.2.2.1 28 (gIx (q5.2.2.2.1 35 (gIx x1))), q5.2))
    else if x2 = (1 : Int32) then
      (gc (gIn (q5.2.2.2.1 35 (gIx x1)) (gLen 29)) <| some (q5.2.2.2.1 29 (gIx (q5.2.2.2.1 35 (gIx x1))), q5.2))
    else if x2 = (2 : Int32) then
      (some (q5.2.1 27 11, q5.2))
    else if x2 = (3 : Int32) then
      (gc (gIn (q5.2.2.2.1 35 (gIx x1)) (gLen 30)) <| some (q5.2.2.2.1 30 (gIx (q5.2.2.2.1 35 (gIx x1))), q5.2))
    else if x2 = (4 : Int32) then
      (some (q5.2.1 27 10, q5.2))
    else 
      (none))
set_option maxHeartbeats 4000000 in
set_option maxRecDepth 100000 in
theorem t_Desk_row (C : gX "TermDesk" prog_1_method_12_code 4 (some .int) 1 21 R cells slots cy D ρ A p s m args meth c) {x1 : Int32} {x2 : Int32} {u : gSt} {z : (Int32 × gSt)} (hM : M_Desk_row x1 x2 u = some z) (hR : gRtI p l e R s m args below meth c Q H0 cells slots cy D ρ A prog_1_method_12_code z.1 z.2) : gAt p l e R s m args below meth c Q H0 cells slots cy D ρ A 4 0 [(0, .ref (ρ 0)), (1, .int x1), (2, .int x2)] [] u := by
  intro ls H locs hl hP hS
  have hx := C.1
  have hb := C.2.1
  unfold M_Desk_row at hM
  refine lv_aload_n hx hb d_Desk_row_0 rfl (lv_at hl 0 rfl) ?_
  refine g_getR (b := 27) C hP gl_Desk_29 rfl rfl rfl d_Desk_row_1 ?_
  refine lv_iload_n hx hb d_Desk_row_4 rfl (lv_at hl 1 rfl) ?_
  obtain ⟨q5, hq5, hM⟩ := gb_some hM
  refine g_backI (g_runV (As := [.int x1]) C hP (c_Ranking_hasRow C.2.2.2.2.2.2.2.2.1 hq5) gi_Ranking_hasRow gm_Desk_188 rfl rfl (by decide) (by decide) hl.1 rfl (Nat.le_of_ble_eq_true rfl) d_Desk_row_5) hS (fun H locs hP hS => ?_)
  refine lv_if_ne (tgt := 21) hx hb d_Desk_row_8 (by decide) (fun hc8 => ?_) (fun hc8 => ?_)
  · replace hM := gi_f hc8 hM
    refine lv_aload_n hx hb d_Desk_row_21 rfl (lv_at hl 0 rfl) ?_
    refine g_getR (b := 27) C hP gl_Desk_29 rfl rfl rfl d_Desk_row_22 ?_
    refine g_getR (b := 35) C hP gl_Desk_193 rfl rfl rfl d_Desk_row_25 ?_
    refine lv_iload_n hx hb d_Desk_row_28 rfl (lv_at hl 1 rfl) ?_
    obtain ⟨hi29, hM⟩ := gc_some hM
    refine g_iald C hP rfl hi29 d_Desk_row_29 ?_
    refine lv_istore_n (lv' := [(3, .int (q5.2.2.2.1 35 (gIx x1))), (0, .ref (ρ 0)), (1, .int x1), (2, .int x2)]) hx hb d_Desk_row_30 rfl hl (by decide) rfl (fun ls hl => ?_)
    refine lv_iload_n hx hb d_Desk_row_31 rfl (lv_at hl 3 rfl) ?_
    by_cases hc32_0 : x2 = (0 : Int32)
    · replace hM := gi_t hc32_0 hM
      refine g_tabIn (v := 0) (tgt := 68) hx hb d_Desk_row_32 hc32_0 (by decide) (by decide) (off := 36) (by decide) (by decide) ?_
      refine lv_aload_n hx hb d_Desk_row_68 rfl (lv_at hl 1 rfl) ?_
      refine g_getR (b := 27) C hP gl_Desk_29 rfl rfl rfl d_Desk_row_69 ?_
      refine g_getR (b := 28) C hP gl_Desk_197 rfl rfl rfl d_Desk_row_72 ?_
      refine lv_iload_n hx hb d_Desk_row_75 rfl (lv_at hl 0 rfl) ?_
      obtain ⟨hi76, hM⟩ := gc_some hM
      refine g_iald C hP rfl hi76 d_Desk_row_76 ?_
      obtain rfl := Option.some.inj hM
      exact hR _ ls H locs d_Desk_row_77 hP hS
    replace hM := gi_f hc32_0 hM
    by_cases hc32_1 : x2 = (1 : Int32)
    · replace hM := gi_t hc32_1 hM
      refine g_tabIn (v := 1) (tgt := 78) hx hb d_Desk_row_32 hc32_1 (by decide) (by decide) (off := 46) (by decide) (by decide) ?_
      refine lv_aload_n hx hb d_Desk_row_78 rfl (lv_at hl 1 rfl) ?_
      refine g_getR (b := 27) C hP gl_Desk_29 rfl rfl rfl d_Desk_row_79 ?_
      refine g_getR (b := 29) C hP gl_Desk_200 rfl rfl rfl d_Desk_row_82 ?_
      refine lv_iload_n hx hb d_Desk_row_85 rfl (lv_at hl 0 rfl) ?_
      obtain ⟨hi86, hM⟩ := gc_some hM
      refine g_iald C hP rfl hi86 d_Desk_row_86 ?_
      obtain rfl := Option.some.inj hM
      exact hR _ ls H locs d_Desk_row_87 hP hS
    replace hM := gi_f hc32_1 hM
    by_cases hc32_2 : x2 = (2 : Int32)
    · replace hM := gi_t hc32_2 hM
      refine g_tabIn (v := 2) (tgt := 88) hx hb d_Desk_row_32 hc32_2 (by decide) (by decide) (off := 56) (by decide) (by decide) ?_
      refine lv_aload_n hx hb d_Desk_row_88 rfl (lv_at hl 1 rfl) ?_
      refine g_getR (b := 27) C hP gl_Desk_29 rfl rfl rfl d_Desk_row_89 ?_
      refine g_getI C hP gl_Desk_203 rfl rfl d_Desk_row_92 ?_
      obtain rfl := Option.some.inj hM
      exact hR _ ls H locs d_Desk_row_95 hP hS
    replace hM := gi_f hc32_2 hM
    by_cases hc32_3 : x2 = (3 : Int32)
    · replace hM := gi_t hc32_3 hM
      refine g_tabIn (v := 3) (tgt := 96) hx hb d_Desk_row_32 hc32_3 (by decide) (by decide) (off := 64) (by decide) (by decide) ?_
      refine lv_aload_n hx hb d_Desk_row_96 rfl (lv_at hl 1 rfl) ?_
      refine g_getR (b := 27) C hP gl_Desk_29 rfl rfl rfl d_Desk_row_97 ?_
      refine g_getR (b := 30) C hP gl_Desk_205 rfl rfl rfl d_Desk_row_100 ?_
      refine lv_iload_n hx hb d_Desk_row_103 rfl (lv_at hl 0 rfl) ?_
      obtain ⟨hi104, hM⟩ := gc_some hM
      refine g_iald C hP rfl hi104 d_Desk_row_104 ?_
      obtain rfl := Option.some.inj hM
      exact hR _ ls H locs d_Desk_row_105 hP hS
    replace hM := gi_f hc32_3 hM
    by_cases hc32_4 : x2 = (4 : Int32)
    · replace hM := gi_t hc32_4 hM
      refine g_tabIn (v := 4) (tgt := 106) hx hb d_Desk_row_32 hc32_4 (by decide) (by decide) (off := 74) (by decide) (by decide) ?_
      refine lv_aload_n hx hb d_Desk_row_106 rfl (lv_at hl 1 rfl) ?_
      refine g_getR (b := 27) C hP gl_Desk_29 rfl rfl rfl d_Desk_row_107 ?_
      refine g_getI C hP gl_Desk_208 rfl rfl d_Desk_row_110 ?_
      obtain rfl := Option.some.inj hM
      exact hR _ ls H locs d_Desk_row_113 hP hS
    replace hM := gi_f hc32_4 hM
    refine lv_tableOut (tgt := 114) hx hb d_Desk_row_32 (by have := gneI (k := 0) hc32_0 (by decide); have := gneI (k := 0) hc32_0 (by decide); have := gneI (k := 1) hc32_1 (by decide); have := gneI (k := 2) hc32_2 (by decide); have := gneI (k := 3) hc32_3 (by decide); have := gneI (k := 4) hc32_4 (by decide); omega) (by decide) ?_
    cases hM
  · replace hM := gi_t hc8 hM
    cases hM
theorem c_Desk_row {l : Launch} {cy : Nat → ClassId} {D : va_G} {ρ : Nat → Nat} {A : Nat → Prop} (hD : gD ρ A) {x1 : Int32} {x2 : Int32} {u : gSt} {z : (Int32 × gSt)} (hM : M_Desk_row x1 x2 u = some z) : gCtI l y_Desk_row prog_1_method_12_code 4 (some .int) 1 21 cy D ρ A [.ref (ρ 0), .int x1, .int x2] u z.1 z.2 :=
  g_met (by decide) hD (Nat.le_of_ble_eq_true rfl) (fun p e s m below meth c ls X hl hP => t_Desk_row X hM (fun pc ls H locs hd hP hS => g_iret X hP hS hd) ls _ [] hl hP va_S.rf)
end
section
variable {p : Program} {l : Launch} {e : Env} {R : Room} {s : State} {m : MethodId} {args : Array Value} {below : List Frame} {meth : Method} {c : Code} {Q : State → Prop} {H0 : Heap} {cells slots : Nat} {cy : Nat → ClassId} {D : va_G} {ρ : Nat → Nat} {A : Nat → Prop}
def y_Desk_print : MethodName := ⟨"TermDesk", "print", "(III)I"⟩
theorem gi_Desk_print : gMi y_Desk_print prog_1_method_13_code 5 (some .int) 3 0 := ⟨(gWs_at 970 (by decide +kernel) (by decide +kernel)), (gWs_at 968 (by decide +kernel) (by decide +kernel)), (gWs_at 969 (by decide +kernel) (by decide +kernel)), (gWs_at 117 (by decide +kernel) (by decide +kernel)), ⟨by decide +kernel, by decide +kernel, by decide +kernel⟩, _, _, rfl⟩
theorem gm_Law_51 : gMk "TermDeskLaw" 51 y_Desk_print := Or.inl (gWs_at 967 (by decide +kernel) (by decide +kernel))
theorem d_Desk_print_0 : decode prog_1_method_13_code 0 = .ok (.aload_n 0, 1) := by decide +kernel
theorem d_Desk_print_1 : decode prog_1_method_13_code 1 = .ok (.getfield 29, 3) := by decide +kernel
theorem d_Desk_print_4 : decode prog_1_method_13_code 4 = .ok (.iload_n 1, 1) := by decide +kernel
theorem d_Desk_print_5 : decode prog_1_method_13_code 5 = .ok (.invokevirtual 188, 3) := by decide +kernel
theorem d_Desk_print_8 : decode prog_1_method_13_code 8 = .ok (.ifCond .ne 13, 3) := by decide +kernel
theorem d_Desk_print_11 : decode prog_1_method_13_code 11 = .ok (.new 123, 3) := by decide +kernel
theorem d_Desk_print_21 : decode prog_1_method_13_code 21 = .ok (.iload_n 2, 1) := by decide +kernel
theorem d_Desk_print_22 : decode prog_1_method_13_code 22 = .ok (.ifCond .lt 19, 3) := by decide +kernel
theorem d_Desk_print_25 : decode prog_1_method_13_code 25 = .ok (.iload_n 2, 1) := by decide +kernel
theorem d_Desk_print_26 : decode prog_1_method_13_code 26 = .ok (.iconst 4, 1) := by decide +kernel
theorem d_Desk_print_27 : decode prog_1_method_13_code 27 = .ok (.if_icmp .ge 14, 3) := by decide +kernel
theorem d_Desk_print_30 : decode prog_1_method_13_code 30 = .ok (.iload_n 3, 1) := by decide +kernel
theorem d_Desk_print_31 : decode prog_1_method_13_code 31 = .ok (.iconst (-1), 1) := by decide +kernel
theorem d_Desk_print_32 : decode prog_1_method_13_code 32 = .ok (.if_icmp .lt 9, 3) := by decide +kernel
theorem d_Desk_print_35 : decode prog_1_method_13_code 35 = .ok (.iload_n 3, 1) := by decide +kernel
theorem d_Desk_print_36 : decode prog_1_method_13_code 36 = .ok (.bipush 40, 2) := by decide +kernel
theorem d_Desk_print_38 : decode prog_1_method_13_code 38 = .ok (.if_icmp .le 13, 3) := by decide +kernel
theorem d_Desk_print_41 : decode prog_1_method_13_code 41 = .ok (.new 68, 3) := by decide +kernel
theorem d_Desk_print_51 : decode prog_1_method_13_code 51 = .ok (.iload_n 2, 1) := by decide +kernel
theorem d_Desk_print_52 : decode prog_1_method_13_code 52 = .ok (.aload_n 0, 1) := by decide +kernel
theorem d_Desk_print_53 : decode prog_1_method_13_code 53 = .ok (.getfield 29, 3) := by decide +kernel
theorem d_Desk_print_56 : decode prog_1_method_13_code 56 = .ok (.getfield 193, 3) := by decide +kernel
theorem d_Desk_print_59 : decode prog_1_method_13_code 59 = .ok (.iload_n 1, 1) := by decide +kernel
theorem d_Desk_print_60 : decode prog_1_method_13_code 60 = .ok (.iaload, 1) := by decide +kernel
theorem d_Desk_print_61 : decode prog_1_method_13_code 61 = .ok (.invokestatic 214, 3) := by decide +kernel
theorem d_Desk_print_64 : decode prog_1_method_13_code 64 = .ok (.istore 4, 2) := by decide +kernel
theorem d_Desk_print_66 : decode prog_1_method_13_code 66 = .ok (.aload_n 0, 1) := by decide +kernel
theorem d_Desk_print_67 : decode prog_1_method_13_code 67 = .ok (.getfield 36, 3) := by decide +kernel
theorem d_Desk_print_70 : decode prog_1_method_13_code 70 = .ok (.aload_n 0, 1) := by decide +kernel
theorem d_Desk_print_71 : decode prog_1_method_13_code 71 = .ok (.getfield 29, 3) := by decide +kernel
theorem d_Desk_print_74 : decode prog_1_method_13_code 74 = .ok (.getfield 217, 3) := by decide +kernel
theorem d_Desk_print_77 : decode prog_1_method_13_code 77 = .ok (.iload 4, 2) := by decide +kernel
theorem d_Desk_print_79 : decode prog_1_method_13_code 79 = .ok (.aaload, 1) := by decide +kernel
theorem d_Desk_print_80 : decode prog_1_method_13_code 80 = .ok (.aload_n 0, 1) := by decide +kernel
theorem d_Desk_print_81 : decode prog_1_method_13_code 81 = .ok (.getfield 29, 3) := by decide +kernel
theorem d_Desk_print_84 : decode prog_1_method_13_code 84 = .ok (.getfield 221, 3) := by decide +kernel
theorem d_Desk_print_87 : decode prog_1_method_13_code 87 = .ok (.aload_n 0, 1) := by decide +kernel
theorem d_Desk_print_88 : decode prog_1_method_13_code 88 = .ok (.getfield 29, 3) := by decide +kernel
theorem d_Desk_print_91 : decode prog_1_method_13_code 91 = .ok (.getfield 224, 3) := by decide +kernel
theorem d_Desk_print_94 : decode prog_1_method_13_code 94 = .ok (.iload 4, 2) := by decide +kernel
theorem d_Desk_print_96 : decode prog_1_method_13_code 96 = .ok (.iaload, 1) := by decide +kernel
theorem d_Desk_print_97 : decode prog_1_method_13_code 97 = .ok (.invokevirtual 227, 3) := by decide +kernel
theorem d_Desk_print_100 : decode prog_1_method_13_code 100 = .ok (.iload_n 3, 1) := by decide +kernel
theorem d_Desk_print_101 : decode prog_1_method_13_code 101 = .ok (.iconst (-1), 1) := by decide +kernel
theorem d_Desk_print_102 : decode prog_1_method_13_code 102 = .ok (.if_icmp .ne 13, 3) := by decide +kernel
theorem d_Desk_print_105 : decode prog_1_method_13_code 105 = .ok (.aload_n 0, 1) := by decide +kernel
theorem d_Desk_print_106 : decode prog_1_method_13_code 106 = .ok (.getfield 36, 3) := by decide +kernel
theorem d_Desk_print_109 : decode prog_1_method_13_code 109 = .ok (.invokevirtual 231, 3) := by decide +kernel
theorem d_Desk_print_112 : decode prog_1_method_13_code 112 = .ok (.goto 11, 3) := by decide +kernel
theorem d_Desk_print_115 : decode prog_1_method_13_code 115 = .ok (.aload_n 0, 1) := by decide +kernel
theorem d_Desk_print_116 : decode prog_1_method_13_code 116 = .ok (.getfield 36, 3) := by decide +kernel
theorem d_Desk_print_119 : decode prog_1_method_13_code 119 = .ok (.iload_n 3, 1) := by decide +kernel
theorem d_Desk_print_120 : decode prog_1_method_13_code 120 = .ok (.invokevirtual 234, 3) := by decide +kernel
theorem d_Desk_print_123 : decode prog_1_method_13_code 123 = .ok (.aload_n 0, 1) := by decide +kernel
theorem d_Desk_print_124 : decode prog_1_method_13_code 124 = .ok (.getfield 36, 3) := by decide +kernel
theorem d_Desk_print_127 : decode prog_1_method_13_code 127 = .ok (.getfield 237, 3) := by decide +kernel
theorem d_Desk_print_130 : decode prog_1_method_13_code 130 = .ok (.ireturn, 1) := by decide +kernel
noncomputable def M_Desk_print_b41 (u : gSt) : Option ((Int32 × gSt)) :=
  none
set_option maxHeartbeats 4000000 in
set_option maxRecDepth 100000 in
theorem t_Desk_print_b41 (C : gX "TermDesk" prog_1_method_13_code 5 (some .int) 4 104 R cells slots cy D ρ A p s m args meth c) {u : gSt} {z : (Int32 × gSt)} (hM : M_Desk_print_b41 u = some z) (hR : gRtI p l e R s m args below meth c Q H0 cells slots cy D ρ A prog_1_method_13_code z.1 z.2) : gAt p l e R s m args below meth c Q H0 cells slots cy D ρ A 5 41 [] [] u := by
  intro ls H locs hl hP hS
  have hx := C.1
  have hb := C.2.1
  unfold M_Desk_print_b41 at hM
  cases hM
noncomputable def M_Desk_print_b123 (u : gSt) : Option ((Int32 × gSt)) :=
  some (u.1 38 3, u)
set_option maxHeartbeats 4000000 in
set_option maxRecDepth 100000 in
theorem t_Desk_print_b123 (C : gX "TermDesk" prog_1_method_13_code 5 (some .int) 4 104 R cells slots cy D ρ A p s m args meth c) {u : gSt} {z : (Int32 × gSt)} (hM : M_Desk_print_b123 u = some z) (hR : gRtI p l e R s m args below meth c Q H0 cells slots cy D ρ A prog_1_method_13_code z.1 z.2) : gAt p l e R s m args below meth c Q H0 cells slots cy D ρ A 5 123 [(0, .ref (ρ 0))] [] u := by
  intro ls H locs hl hP hS
  have hx := C.1
  have hb := C.2.1
  unfold M_Desk_print_b123 at hM
  refine lv_aload_n hx hb d_Desk_print_123 rfl (lv_at hl 0 rfl) ?_
  refine g_getR (b := 38) C hP gl_Desk_36 rfl rfl rfl d_Desk_print_124 ?_
  refine g_getI C hP gl_Desk_237 rfl rfl d_Desk_print_127 ?_
  obtain rfl := Option.some.inj hM
  exact hR _ ls H locs d_Desk_print_130 hP hS
noncomputable def M_Desk_print (x1 : Int32) (x2 : Int32) (x3 : Int32) (u : gSt) : Option ((Int32 × gSt)) :=
  (M_Ranking_hasRow x1 u).bind fun q5 =>
  if q5.1 = (0 : Int32) then
    (none)
  else
    (if x2 < (0 : Int32) then
      (M_Desk_print_b41 q5.2)
    else
      (if (4 : Int32) ≤ x2 then
        (M_Desk_print_b41 q5.2)
      else
        (if x3 < (-1 : Int32) then
          (M_Desk_print_b41 q5.2)
        else
          (if x3 ≤ (40 : Int32) then
            (gc (gIn x1 (gLen 35)) <| (M_Ranking_slot x2 (q5.2.2.2.1 35 (gIx x1)) q5.2).bind fun q61 =>
            gc (gIn q61.1 (gLen 31)) <| (gAR 31 (gIx q61.1)).bind fun r79 => gc (gIn q61.1 (gLen 32)) <| (M_Strip_take r79 33 (q61.2.2.2.1 32 (gIx q61.1)) q61.2).bind fun q97 =>
            if x3 = (-1 : Int32) then
              ((M_Strip_writeJust q97).bind fun q109 =>
              M_Desk_print_b123 q109)
            else
              ((M_Strip_writeRounded x3 q97).bind fun q120 =>
              M_Desk_print_b123 q120))
          else
            (M_Desk_print_b41 q5.2)))))
set_option maxHeartbeats 4000000 in
set_option maxRecDepth 100000 in
theorem t_Desk_print (C : gX "TermDesk" prog_1_method_13_code 5 (some .int) 4 104 R cells slots cy D ρ A p s m args meth c) {x1 : Int32} {x2 : Int32} {x3 : Int32} {u : gSt} {z : (Int32 × gSt)} (hM : M_Desk_print x1 x2 x3 u = some z) (hR : gRtI p l e R s m args below meth c Q H0 cells slots cy D ρ A prog_1_method_13_code z.1 z.2) : gAt p l e R s m args below meth c Q H0 cells slots cy D ρ A 5 0 [(0, .ref (ρ 0)), (1, .int x1), (2, .int x2), (3, .int x3)] [] u := by
  intro ls H locs hl hP hS
  have hx := C.1
  have hb := C.2.1
  unfold M_Desk_print at hM
  refine lv_aload_n hx hb d_Desk_print_0 rfl (lv_at hl 0 rfl) ?_
  refine g_getR (b := 27) C hP gl_Desk_29 rfl rfl rfl d_Desk_print_1 ?_
  refine lv_iload_n hx hb d_Desk_print_4 rfl (lv_at hl 1 rfl) ?_
  obtain ⟨q5, hq5, hM⟩ := gb_some hM
  refine g_backI (g_runV (As := [.int x1]) C hP (c_Ranking_hasRow C.2.2.2.2.2.2.2.2.1 hq5) gi_Ranking_hasRow gm_Desk_188 rfl rfl (by decide) (by decide) hl.1 rfl (Nat.le_of_ble_eq_true rfl) d_Desk_print_5) hS (fun H locs hP hS => ?_)
  refine lv_if_ne (tgt := 21) hx hb d_Desk_print_8 (by decide) (fun hc8 => ?_) (fun hc8 => ?_)
  · replace hM := gi_f hc8 hM
    refine lv_iload_n hx hb d_Desk_print_21 rfl (lv_at hl 2 rfl) ?_
    refine lv_if_lt (tgt := 41) hx hb d_Desk_print_22 (by decide) (fun hc22 => ?_) (fun hc22 => ?_)
    · replace hM := gi_t hc22 hM
      exact t_Desk_print_b41 C hM hR ls H locs (lv_sub hl [] rfl) hP hS
    · replace hM := gi_f hc22 hM
      refine lv_iload_n hx hb d_Desk_print_25 rfl (lv_at hl 2 rfl) ?_
      refine lv_iconst (v := (4 : Int32)) hx hb d_Desk_print_26 (by decide) ?_
      refine lv_icmp_ge (tgt := 41) hx hb d_Desk_print_27 (by decide) (fun hc27 => ?_) (fun hc27 => ?_)
      · replace hM := gi_t hc27 hM
        exact t_Desk_print_b41 C hM hR ls H locs (lv_sub hl [] rfl) hP hS
      · replace hM := gi_f hc27 hM
        refine lv_iload_n hx hb d_Desk_print_30 rfl (lv_at hl 3 rfl) ?_
        refine lv_iconst (v := (-1 : Int32)) hx hb d_Desk_print_31 (by decide) ?_
        refine lv_icmp_lt (tgt := 41) hx hb d_Desk_print_32 (by decide) (fun hc32 => ?_) (fun hc32 => ?_)
        · replace hM := gi_t hc32 hM
          exact t_Desk_print_b41 C hM hR ls H locs (lv_sub hl [] rfl) hP hS
        · replace hM := gi_f hc32 hM
          refine lv_iload_n hx hb d_Desk_print_35 rfl (lv_at hl 3 rfl) ?_
          refine lv_bipush (v := (40 : Int32)) hx hb d_Desk_print_36 (by decide) ?_
          refine lv_icmp_le (tgt := 51) hx hb d_Desk_print_38 (by decide) (fun hc38 => ?_) (fun hc38 => ?_)
          · replace hM := gi_t hc38 hM
            refine lv_iload_n hx hb d_Desk_print_51 rfl (lv_at hl 2 rfl) ?_
            refine lv_aload_n hx hb d_Desk_print_52 rfl (lv_at hl 0 rfl) ?_
            refine g_getR (b := 27) C hP gl_Desk_29 rfl rfl rfl d_Desk_print_53 ?_
            refine g_getR (b := 35) C hP gl_Desk_193 rfl rfl rfl d_Desk_print_56 ?_
            refine lv_iload_n hx hb d_Desk_print_59 rfl (lv_at hl 1 rfl) ?_
            obtain ⟨hi60, hM⟩ := gc_some hM
            refine g_iald C hP rfl hi60 d_Desk_print_60 ?_
            obtain ⟨q61, hq61, hM⟩ := gb_some hM
            refine g_backI (g_runS (As := [.int x2, .int (q5.2.2.2.1 35 (gIx x1))]) C hP (c_Ranking_slot C.2.2.2.2.2.2.2.2.1 hq61) gi_Ranking_slot gm_Desk_214 rfl (by decide) (by decide) hl.1 rfl (Nat.le_of_ble_eq_true rfl) d_Desk_print_61) hS (fun H locs hP hS => ?_)
            refine lv_istore (lv' := [(4, .int q61.1), (0, .ref (ρ 0)), (1, .int x1), (2, .int x2), (3, .int x3)]) hx hb d_Desk_print_64 hl (by decide) rfl (fun ls hl => ?_)
            refine lv_aload_n hx hb d_Desk_print_66 rfl (lv_at hl 1 rfl) ?_
            refine g_getR (b := 38) C hP gl_Desk_36 rfl rfl rfl d_Desk_print_67 ?_
            refine lv_aload_n hx hb d_Desk_print_70 rfl (lv_at hl 1 rfl) ?_
            refine g_getR (b := 27) C hP gl_Desk_29 rfl rfl rfl d_Desk_print_71 ?_
            refine g_getR (b := 31) C hP gl_Desk_217 rfl rfl rfl d_Desk_print_74 ?_
            refine lv_iload hx hb d_Desk_print_77 (lv_at hl 0 rfl) ?_
            obtain ⟨hi79, hM⟩ := gc_some hM
            obtain ⟨r79, hr79, hM⟩ := gb_some hM
            refine g_aald C hP rfl hi79 hr79 d_Desk_print_79 ?_
            refine lv_aload_n hx hb d_Desk_print_80 rfl (lv_at hl 1 rfl) ?_
            refine g_getR (b := 27) C hP gl_Desk_29 rfl rfl rfl d_Desk_print_81 ?_
            refine g_getR (b := 33) C hP gl_Desk_221 rfl rfl rfl d_Desk_print_84 ?_
            refine lv_aload_n hx hb d_Desk_print_87 rfl (lv_at hl 1 rfl) ?_
            refine g_getR (b := 27) C hP gl_Desk_29 rfl rfl rfl d_Desk_print_88 ?_
            refine g_getR (b := 32) C hP gl_Desk_224 rfl rfl rfl d_Desk_print_91 ?_
            refine lv_iload hx hb d_Desk_print_94 (lv_at hl 0 rfl) ?_
            obtain ⟨hi96, hM⟩ := gc_some hM
            refine g_iald C hP rfl hi96 d_Desk_print_96 ?_
            obtain ⟨q97, hq97, hM⟩ := gb_some hM
            refine g_backV (g_runV (As := [.ref (ρ r79), .ref (ρ 33), .int (q61.2.2.2.1 32 (gIx q61.1))]) C hP (c_Strip_take C.2.2.2.2.2.2.2.2.1 hq97) gi_Strip_take gm_Desk_227 rfl rfl (by decide) (by decide) hl.1 rfl (Nat.le_of_ble_eq_true rfl) d_Desk_print_97) hS (fun H locs hP hS => ?_)
            refine lv_iload_n hx hb d_Desk_print_100 rfl (lv_at hl 4 rfl) ?_
            refine lv_iconst (v := (-1 : Int32)) hx hb d_Desk_print_101 (by decide) ?_
            refine lv_icmp_ne (tgt := 115) hx hb d_Desk_print_102 (by decide) (fun hc102 => ?_) (fun hc102 => ?_)
            · replace hM := gi_f hc102 hM
              refine lv_aload_n hx hb d_Desk_print_115 rfl (lv_at hl 1 rfl) ?_
              refine g_getR (b := 38) C hP gl_Desk_36 rfl rfl rfl d_Desk_print_116 ?_
              refine lv_iload_n hx hb d_Desk_print_119 rfl (lv_at hl 4 rfl) ?_
              obtain ⟨q120, hq120, hM⟩ := gb_some hM
              refine g_backV (g_runV (As := [.int x3]) C hP (c_Strip_writeRounded C.2.2.2.2.2.2.2.2.1 hq120) gi_Strip_writeRounded gm_Desk_234 rfl rfl (by decide) (by decide) hl.1 rfl (Nat.le_of_ble_eq_true rfl) d_Desk_print_120) hS (fun H locs hP hS => ?_)
              exact t_Desk_print_b123 C hM hR ls H locs (lv_sub hl [1] rfl) hP hS
            · replace hM := gi_t hc102 hM
              refine lv_aload_n hx hb d_Desk_print_105 rfl (lv_at hl 1 rfl) ?_
              refine g_getR (b := 38) C hP gl_Desk_36 rfl rfl rfl d_Desk_print_106 ?_
              obtain ⟨q109, hq109, hM⟩ := gb_some hM
              refine g_backV (g_runV (As := []) C hP (c_Strip_writeJust C.2.2.2.2.2.2.2.2.1 hq109) gi_Strip_writeJust gm_Desk_231 rfl rfl (by decide) (by decide) hl.1 rfl (Nat.le_of_ble_eq_true rfl) d_Desk_print_109) hS (fun H locs hP hS => ?_)
              refine lv_goto (tgt := 123) hx hb d_Desk_print_112 (by decide) ?_
              exact t_Desk_print_b123 C hM hR ls H locs (lv_sub hl [1] rfl) hP hS
          · replace hM := gi_f hc38 hM
            exact t_Desk_print_b41 C hM hR ls H locs (lv_sub hl [] rfl) hP hS
  · replace hM := gi_t hc8 hM
    cases hM
theorem c_Desk_print {l : Launch} {cy : Nat → ClassId} {D : va_G} {ρ : Nat → Nat} {A : Nat → Prop} (hD : gD ρ A) {x1 : Int32} {x2 : Int32} {x3 : Int32} {u : gSt} {z : (Int32 × gSt)} (hM : M_Desk_print x1 x2 x3 u = some z) : gCtI l y_Desk_print prog_1_method_13_code 5 (some .int) 4 104 cy D ρ A [.ref (ρ 0), .int x1, .int x2, .int x3] u z.1 z.2 :=
  g_met (by decide) hD (Nat.le_of_ble_eq_true rfl) (fun p e s m below meth c ls X hl hP => t_Desk_print X hM (fun pc ls H locs hd hP hS => g_iret X hP hS hd) ls _ [] hl hP va_S.rf)
end
