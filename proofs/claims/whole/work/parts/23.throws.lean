/-! printed by wip/whole/gen/gen.py -/
def gEx (k : Nat) : String := match k with
  | 0 => "java/lang/IllegalStateException"
  | 1 => "java/lang/IllegalArgumentException"
  | _ => "java/lang/IndexOutOfBoundsException"
set_option maxRecDepth 100000 in
theorem gow_123_127 : gOwn 123 127 "java/lang/IndexOutOfBoundsException" := ⟨gWs_at 781 (by decide +kernel) (by decide +kernel), gWs_at 782 (by decide +kernel) (by decide +kernel), gWs_at 137 (by decide +kernel) (by decide +kernel), by decide +kernel, by decide +kernel⟩
set_option maxRecDepth 100000 in
theorem gow_57_61 : gOwn 57 61 "java/lang/IllegalStateException" := ⟨gWs_at 625 (by decide +kernel) (by decide +kernel), gWs_at 626 (by decide +kernel) (by decide +kernel), gWs_at 129 (by decide +kernel) (by decide +kernel), by decide +kernel, by decide +kernel⟩
set_option maxRecDepth 100000 in
theorem gow_68_72 : gOwn 68 72 "java/lang/IllegalArgumentException" := ⟨gWs_at 704 (by decide +kernel) (by decide +kernel), gWs_at 705 (by decide +kernel) (by decide +kernel), gWs_at 130 (by decide +kernel) (by decide +kernel), by decide +kernel, by decide +kernel⟩
section
def P_Board_genes (u : gSt) : Option Int32 :=
  some (u.1 9 3)
set_option maxHeartbeats 4000000 in
set_option maxRecDepth 100000 in
theorem pc_Board_genes {l : Launch} {cy : Nat → ClassId} {D : va_G} {ρ : Nat → Nat} {A : Nat → Prop} (hD : gD ρ A) {u : gSt} {r : Int32} (hM : P_Board_genes u = some r) : gCtP l y_Board_genes prog_3_method_2_code 1 (some .int) 0 0 cy D ρ [.ref (ρ 4)] u r := by
  refine g_metP (by decide) hD (Nat.le_of_ble_eq_true rfl) (fun p e s m below meth c ls C hl hP => ?_)
  have hx := C.1
  have hb := C.2.1
  unfold P_Board_genes at hM
  have hl : lv_has ls 1 [(0, .ref (ρ 4))] := hl
  refine lv_aload_n hx hb d_Board_genes_0 rfl (lv_at hl 0 rfl) ?_
  refine g_getR (b := 9) C hP gl_Board_20 rfl rfl rfl d_Board_genes_1 ?_
  refine g_getI C hP gl_Board_58 rfl rfl d_Board_genes_4 ?_
  obtain rfl := Option.some.inj hM
  exact g_iretP C d_Board_genes_7
end
section
def P_Board_hasTerm (x1 : Int32) (u : gSt) : Option Int32 :=
  if x1 < (0 : Int32) then
    (some (0 : Int32))
  else
    (if (u.1 4 9) ≤ x1 then
      (some (0 : Int32))
    else
      (some (1 : Int32)))
set_option maxHeartbeats 4000000 in
set_option maxRecDepth 100000 in
theorem pc_Board_hasTerm {l : Launch} {cy : Nat → ClassId} {D : va_G} {ρ : Nat → Nat} {A : Nat → Prop} (hD : gD ρ A) {x1 : Int32} {u : gSt} {r : Int32} (hM : P_Board_hasTerm x1 u = some r) : gCtP l y_Board_hasTerm prog_3_method_3_code 2 (some .boolean) 0 0 cy D ρ [.ref (ρ 4), .int x1] u r := by
  refine g_metP (by decide) hD (Nat.le_of_ble_eq_true rfl) (fun p e s m below meth c ls C hl hP => ?_)
  have hx := C.1
  have hb := C.2.1
  unfold P_Board_hasTerm at hM
  have hl : lv_has ls 2 [(0, .ref (ρ 4)), (1, .int x1)] := hl
  refine lv_iload_n hx hb d_Board_hasTerm_0 rfl (lv_at hl 1 rfl) ?_
  refine lv_if_lt (tgt := 16) hx hb d_Board_hasTerm_1 (by decide) (fun hc1 => ?_) (fun hc1 => ?_)
  · replace hM := gi_t hc1 hM
    refine lv_iconst (v := (0 : Int32)) hx hb d_Board_hasTerm_16 (by decide) ?_
    obtain rfl := Option.some.inj hM
    exact g_zretP C rfl d_Board_hasTerm_17
  · replace hM := gi_f hc1 hM
    refine lv_iload_n hx hb d_Board_hasTerm_4 rfl (lv_at hl 1 rfl) ?_
    refine lv_aload_n hx hb d_Board_hasTerm_5 rfl (lv_at hl 0 rfl) ?_
    refine g_getI C hP gl_Board_48 rfl rfl d_Board_hasTerm_6 ?_
    refine lv_icmp_ge (tgt := 16) hx hb d_Board_hasTerm_9 (by decide) (fun hc9 => ?_) (fun hc9 => ?_)
    · replace hM := gi_t hc9 hM
      refine lv_iconst (v := (0 : Int32)) hx hb d_Board_hasTerm_16 (by decide) ?_
      obtain rfl := Option.some.inj hM
      exact g_zretP C rfl d_Board_hasTerm_17
    · replace hM := gi_f hc9 hM
      refine lv_iconst (v := (1 : Int32)) hx hb d_Board_hasTerm_12 (by decide) ?_
      refine lv_goto (tgt := 17) hx hb d_Board_hasTerm_13 (by decide) ?_
      obtain rfl := Option.some.inj hM
      exact g_zretP C rfl d_Board_hasTerm_17
end
section
def P_Board_hasGene (x1 : Int32) (u : gSt) : Option Int32 :=
  if x1 < (0 : Int32) then
    (some (0 : Int32))
  else
    ((P_Board_genes u).bind fun q6 =>
    if q6 ≤ x1 then
      (some (0 : Int32))
    else
      (some (1 : Int32)))
set_option maxHeartbeats 4000000 in
set_option maxRecDepth 100000 in
theorem pc_Board_hasGene {l : Launch} {cy : Nat → ClassId} {D : va_G} {ρ : Nat → Nat} {A : Nat → Prop} (hD : gD ρ A) {x1 : Int32} {u : gSt} {r : Int32} (hM : P_Board_hasGene x1 u = some r) : gCtP l y_Board_hasGene prog_3_method_4_code 2 (some .boolean) 1 20 cy D ρ [.ref (ρ 4), .int x1] u r := by
  refine g_metP (by decide) hD (Nat.le_of_ble_eq_true rfl) (fun p e s m below meth c ls C hl hP => ?_)
  have hx := C.1
  have hb := C.2.1
  unfold P_Board_hasGene at hM
  have hl : lv_has ls 2 [(0, .ref (ρ 4)), (1, .int x1)] := hl
  refine lv_iload_n hx hb d_Board_hasGene_0 rfl (lv_at hl 1 rfl) ?_
  refine lv_if_lt (tgt := 16) hx hb d_Board_hasGene_1 (by decide) (fun hc1 => ?_) (fun hc1 => ?_)
  · replace hM := gi_t hc1 hM
    refine lv_iconst (v := (0 : Int32)) hx hb d_Board_hasGene_16 (by decide) ?_
    obtain rfl := Option.some.inj hM
    exact g_zretP C rfl d_Board_hasGene_17
  · replace hM := gi_f hc1 hM
    refine lv_iload_n hx hb d_Board_hasGene_4 rfl (lv_at hl 1 rfl) ?_
    refine lv_aload_n hx hb d_Board_hasGene_5 rfl (lv_at hl 0 rfl) ?_
    obtain ⟨q6, hq6, hM⟩ := gb_some hM
    refine g_callP (As := []) C hP (pc_Board_genes C.2.2.2.2.2.2.2.2.1 hq6) gi_Board_genes gm_Board_61 rfl rfl (by decide) (by decide) hl.1 rfl (Nat.le_of_ble_eq_true rfl) d_Board_hasGene_6 ?_
    refine lv_icmp_ge (tgt := 16) hx hb d_Board_hasGene_9 (by decide) (fun hc9 => ?_) (fun hc9 => ?_)
    · replace hM := gi_t hc9 hM
      refine lv_iconst (v := (0 : Int32)) hx hb d_Board_hasGene_16 (by decide) ?_
      obtain rfl := Option.some.inj hM
      exact g_zretP C rfl d_Board_hasGene_17
    · replace hM := gi_f hc9 hM
      refine lv_iconst (v := (1 : Int32)) hx hb d_Board_hasGene_12 (by decide) ?_
      refine lv_goto (tgt := 17) hx hb d_Board_hasGene_13 (by decide) ?_
      obtain rfl := Option.some.inj hM
      exact g_zretP C rfl d_Board_hasGene_17
end
section
def P_Ranking_hasRow (x1 : Int32) (u : gSt) : Option Int32 :=
  if x1 < (0 : Int32) then
    (some (0 : Int32))
  else
    (if (u.1 27 13) ≤ x1 then
      (some (0 : Int32))
    else
      (some (1 : Int32)))
set_option maxHeartbeats 4000000 in
set_option maxRecDepth 100000 in
theorem pc_Ranking_hasRow {l : Launch} {cy : Nat → ClassId} {D : va_G} {ρ : Nat → Nat} {A : Nat → Prop} (hD : gD ρ A) {x1 : Int32} {u : gSt} {r : Int32} (hM : P_Ranking_hasRow x1 u = some r) : gCtP l y_Ranking_hasRow prog_8_method_3_code 2 (some .boolean) 0 0 cy D ρ [.ref (ρ 27), .int x1] u r := by
  refine g_metP (by decide) hD (Nat.le_of_ble_eq_true rfl) (fun p e s m below meth c ls C hl hP => ?_)
  have hx := C.1
  have hb := C.2.1
  unfold P_Ranking_hasRow at hM
  have hl : lv_has ls 2 [(0, .ref (ρ 27)), (1, .int x1)] := hl
  refine lv_iload_n hx hb d_Ranking_hasRow_0 rfl (lv_at hl 1 rfl) ?_
  refine lv_if_lt (tgt := 16) hx hb d_Ranking_hasRow_1 (by decide) (fun hc1 => ?_) (fun hc1 => ?_)
  · replace hM := gi_t hc1 hM
    refine lv_iconst (v := (0 : Int32)) hx hb d_Ranking_hasRow_16 (by decide) ?_
    obtain rfl := Option.some.inj hM
    exact g_zretP C rfl d_Ranking_hasRow_17
  · replace hM := gi_f hc1 hM
    refine lv_iload_n hx hb d_Ranking_hasRow_4 rfl (lv_at hl 1 rfl) ?_
    refine lv_aload_n hx hb d_Ranking_hasRow_5 rfl (lv_at hl 0 rfl) ?_
    refine g_getI C hP gl_Ranking_56 rfl rfl d_Ranking_hasRow_6 ?_
    refine lv_icmp_ge (tgt := 16) hx hb d_Ranking_hasRow_9 (by decide) (fun hc9 => ?_) (fun hc9 => ?_)
    · replace hM := gi_t hc9 hM
      refine lv_iconst (v := (0 : Int32)) hx hb d_Ranking_hasRow_16 (by decide) ?_
      obtain rfl := Option.some.inj hM
      exact g_zretP C rfl d_Ranking_hasRow_17
    · replace hM := gi_f hc9 hM
      refine lv_iconst (v := (1 : Int32)) hx hb d_Ranking_hasRow_12 (by decide) ?_
      refine lv_goto (tgt := 17) hx hb d_Ranking_hasRow_13 (by decide) ?_
      obtain rfl := Option.some.inj hM
      exact g_zretP C rfl d_Ranking_hasRow_17
end
theorem d_Desk_feed_18 : decode prog_1_method_2_code 18 = .ok (.dup, 1) := by decide +kernel
theorem d_Desk_feed_19 : decode prog_1_method_2_code 19 = .ok (.ldc 59, 2) := by decide +kernel
theorem d_Desk_feed_21 : decode prog_1_method_2_code 21 = .ok (.invokespecial 61, 3) := by decide +kernel
theorem d_Desk_feed_24 : decode prog_1_method_2_code 24 = .ok (.athrow, 1) := by decide +kernel
section
def E_Desk_feed (x1 : Int32) (x2 : Int32) (x3 : Int32) (x4 : Int32) (x5 : Int32) (u : gSt) : Option Nat :=
  if ((u.1 2 1) + (20 : Int32)) ≤ (40000 : Int32) then
    (none)
  else
    (some 0)
set_option maxHeartbeats 4000000 in
set_option maxRecDepth 100000 in
theorem e_Desk_feed {l : Launch} {cy : Nat → ClassId} {D : va_G} {ρ : Nat → Nat} {A : Nat → Prop} (hfl : l.stackTraces = false) (hD : gD ρ A) {x1 : Int32} {x2 : Int32} {x3 : Int32} {x4 : Int32} {x5 : Int32} {u : gSt} {k : Nat} (hM : E_Desk_feed x1 x2 x3 x4 x5 u = some k) : gCtT l y_Desk_feed prog_1_method_2_code 6 (some .int) 6 90 cy D ρ A [.ref (ρ 0), .int x1, .int x2, .int x3, .int x4, .int x5] u (gEx k) := by
  refine g_metT (by decide) hD (Nat.le_of_ble_eq_true rfl) (fun p e s m below meth c ls C X2 hex hl hP => ?_)
  have hx := C.1
  have hb := C.2.1
  unfold E_Desk_feed at hM
  have hl : lv_has ls 6 [(0, .ref (ρ 0)), (1, .int x1), (2, .int x2), (3, .int x3), (4, .int x4), (5, .int x5)] := hl
  refine lv_aload_n hx hb d_Desk_feed_0 rfl (lv_at hl 0 rfl) ?_
  refine g_getR (b := 2) C hP gl_Desk_20 rfl rfl rfl d_Desk_feed_1 ?_
  refine g_getI C hP gl_Desk_51 rfl rfl d_Desk_feed_4 ?_
  refine lv_bipush (v := (20 : Int32)) hx hb d_Desk_feed_7 (by decide) ?_
  refine lv_iadd hx hb d_Desk_feed_9 ?_
  refine lv_ldc (v := (40000 : Int32)) hx hb C.2.2.2.2.1 (C.2.2.2.2.2.1 _ (gWs_at 624 (by decide +kernel) (by decide +kernel))) d_Desk_feed_10 ?_
  refine lv_icmp_le (tgt := 25) hx hb d_Desk_feed_12 (by decide) (fun hc12 => ?_) (fun hc12 => ?_)
  · replace hM := gi_t hc12 hM
    refine lv_aload_n hx hb d_Desk_feed_25 rfl (lv_at hl 0 rfl) ?_
    refine g_getR (b := 2) C hP gl_Desk_20 rfl rfl rfl d_Desk_feed_26 ?_
    refine lv_iload_n hx hb d_Desk_feed_29 rfl (lv_at hl 1 rfl) ?_
    cases hM
  · replace hM := gi_f hc12 hM
    obtain rfl := Option.some.inj hM
    exact g_thr C X2 hfl hex gow_57_61 (by decide : (59, "the text would have more than 40000 bytes") ∈ gStrs) hl.1 (by decide) (by decide) ⟨Nat.le_refl _, Nat.le_refl _⟩ d_Desk_feed_15 d_Desk_feed_18 d_Desk_feed_19 d_Desk_feed_21 d_Desk_feed_24
end
theorem d_Desk_trim_24 : decode prog_1_method_3_code 24 = .ok (.dup, 1) := by decide +kernel
theorem d_Desk_trim_25 : decode prog_1_method_3_code 25 = .ok (.ldc 70, 2) := by decide +kernel
theorem d_Desk_trim_27 : decode prog_1_method_3_code 27 = .ok (.invokespecial 72, 3) := by decide +kernel
theorem d_Desk_trim_30 : decode prog_1_method_3_code 30 = .ok (.athrow, 1) := by decide +kernel
section
def E_Desk_trim (x1 : Int32) (u : gSt) : Option Nat :=
  if x1 < (0 : Int32) then
    (some 1)
  else
    (if (20 : Int32) < x1 then
      (some 1)
    else
      (if x1 ≤ (u.1 2 1) then
        (none)
      else
        (some 1)))
set_option maxHeartbeats 4000000 in
set_option maxRecDepth 100000 in
theorem e_Desk_trim {l : Launch} {cy : Nat → ClassId} {D : va_G} {ρ : Nat → Nat} {A : Nat → Prop} (hfl : l.stackTraces = false) (hD : gD ρ A) {x1 : Int32} {u : gSt} {k : Nat} (hM : E_Desk_trim x1 u = some k) : gCtT l y_Desk_trim prog_1_method_3_code 2 (some .int) 6 90 cy D ρ A [.ref (ρ 0), .int x1] u (gEx k) := by
  refine g_metT (by decide) hD (Nat.le_of_ble_eq_true rfl) (fun p e s m below meth c ls C X2 hex hl hP => ?_)
  have hx := C.1
  have hb := C.2.1
  unfold E_Desk_trim at hM
  have hl : lv_has ls 2 [(0, .ref (ρ 0)), (1, .int x1)] := hl
  refine lv_iload_n hx hb d_Desk_trim_0 rfl (lv_at hl 1 rfl) ?_
  refine lv_if_lt (tgt := 21) hx hb d_Desk_trim_1 (by decide) (fun hc1 => ?_) (fun hc1 => ?_)
  · replace hM := gi_t hc1 hM
    obtain rfl := Option.some.inj hM
    exact g_thr C X2 hfl hex gow_68_72 (by decide : (70, "not 0 .. 20 bytes of the text") ∈ gStrs) hl.1 (by decide) (by decide) ⟨Nat.le_refl _, Nat.le_refl _⟩ d_Desk_trim_21 d_Desk_trim_24 d_Desk_trim_25 d_Desk_trim_27 d_Desk_trim_30
  · replace hM := gi_f hc1 hM
    refine lv_iload_n hx hb d_Desk_trim_4 rfl (lv_at hl 1 rfl) ?_
    refine lv_bipush (v := (20 : Int32)) hx hb d_Desk_trim_5 (by decide) ?_
    refine lv_icmp_gt (tgt := 21) hx hb d_Desk_trim_7 (by decide) (fun hc7 => ?_) (fun hc7 => ?_)
    · replace hM := gi_t hc7 hM
      obtain rfl := Option.some.inj hM
      exact g_thr C X2 hfl hex gow_68_72 (by decide : (70, "not 0 .. 20 bytes of the text") ∈ gStrs) hl.1 (by decide) (by decide) ⟨Nat.le_refl _, Nat.le_refl _⟩ d_Desk_trim_21 d_Desk_trim_24 d_Desk_trim_25 d_Desk_trim_27 d_Desk_trim_30
    · replace hM := gi_f hc7 hM
      refine lv_iload_n hx hb d_Desk_trim_10 rfl (lv_at hl 1 rfl) ?_
      refine lv_aload_n hx hb d_Desk_trim_11 rfl (lv_at hl 0 rfl) ?_
      refine g_getR (b := 2) C hP gl_Desk_20 rfl rfl rfl d_Desk_trim_12 ?_
      refine g_getI C hP gl_Desk_51 rfl rfl d_Desk_trim_15 ?_
      refine lv_icmp_le (tgt := 31) hx hb d_Desk_trim_18 (by decide) (fun hc18 => ?_) (fun hc18 => ?_)
      · replace hM := gi_t hc18 hM
        refine lv_aload_n hx hb d_Desk_trim_31 rfl (lv_at hl 0 rfl) ?_
        refine g_getR (b := 2) C hP gl_Desk_20 rfl rfl rfl d_Desk_trim_32 ?_
        refine lv_dup hx hb d_Desk_trim_35 rfl ?_
        refine g_getI C hP gl_Desk_51 rfl rfl d_Desk_trim_36 ?_
        refine lv_iload_n hx hb d_Desk_trim_39 rfl (lv_at hl 1 rfl) ?_
        refine lv_isub hx hb d_Desk_trim_40 ?_
        cases hM
      · replace hM := gi_f hc18 hM
        obtain rfl := Option.some.inj hM
        exact g_thr C X2 hfl hex gow_68_72 (by decide : (70, "not 0 .. 20 bytes of the text") ∈ gStrs) hl.1 (by decide) (by decide) ⟨Nat.le_refl _, Nat.le_refl _⟩ d_Desk_trim_21 d_Desk_trim_24 d_Desk_trim_25 d_Desk_trim_27 d_Desk_trim_30
end
theorem d_Desk_fault_41 : decode prog_1_method_5_code 41 = .ok (.dup, 1) := by decide +kernel
theorem d_Desk_fault_42 : decode prog_1_method_5_code 42 = .ok (.ldc 83, 2) := by decide +kernel
theorem d_Desk_fault_44 : decode prog_1_method_5_code 44 = .ok (.invokespecial 72, 3) := by decide +kernel
theorem d_Desk_fault_47 : decode prog_1_method_5_code 47 = .ok (.athrow, 1) := by decide +kernel
section
def E_Desk_fault (x1 : Int32) (u : gSt) : Option Nat :=
  if x1 = (0 : Int32) then
    (none)
  else if x1 = (1 : Int32) then
    (none)
  else
    (some 1)
set_option maxHeartbeats 4000000 in
set_option maxRecDepth 100000 in
theorem e_Desk_fault {l : Launch} {cy : Nat → ClassId} {D : va_G} {ρ : Nat → Nat} {A : Nat → Prop} (hfl : l.stackTraces = false) (hD : gD ρ A) {x1 : Int32} {u : gSt} {k : Nat} (hM : E_Desk_fault x1 u = some k) : gCtT l y_Desk_fault prog_1_method_5_code 2 (some .int) 6 90 cy D ρ A [.ref (ρ 0), .int x1] u (gEx k) := by
  refine g_metT (by decide) hD (Nat.le_of_ble_eq_true rfl) (fun p e s m below meth c ls C X2 hex hl hP => ?_)
  have hx := C.1
  have hb := C.2.1
  unfold E_Desk_fault at hM
  have hl : lv_has ls 2 [(0, .ref (ρ 0)), (1, .int x1)] := hl
  refine lv_iload_n hx hb d_Desk_fault_0 rfl (lv_at hl 1 rfl) ?_
  by_cases hc1_0 : x1 = (0 : Int32)
  · replace hM := gi_t hc1_0 hM
    refine g_look (tgt := 28) hx hb d_Desk_fault_1 27 (Or.inl ⟨hc1_0, rfl⟩) (by decide) ?_
    refine lv_aload_n hx hb d_Desk_fault_28 rfl (lv_at hl 0 rfl) ?_
    refine g_getI C hP gl_Desk_40 rfl rfl d_Desk_fault_29 ?_
    cases hM
  replace hM := gi_f hc1_0 hM
  by_cases hc1_1 : x1 = (1 : Int32)
  · replace hM := gi_t hc1_1 hM
    refine g_look (tgt := 33) hx hb d_Desk_fault_1 32 (Or.inr (Or.inl ⟨hc1_1, rfl⟩)) (by decide) ?_
    refine lv_aload_n hx hb d_Desk_fault_33 rfl (lv_at hl 0 rfl) ?_
    refine g_getI C hP gl_Desk_44 rfl rfl d_Desk_fault_34 ?_
    cases hM
  replace hM := gi_f hc1_1 hM
  refine g_look (tgt := 38) hx hb d_Desk_fault_1 37 (Or.inr (Or.inr ⟨hc1_0, hc1_1, rfl⟩)) (by decide) ?_
  obtain rfl := Option.some.inj hM
  exact g_thr C X2 hfl hex gow_68_72 (by decide : (83, "what is not 0 or 1") ∈ gStrs) hl.1 (by decide) (by decide) ⟨Nat.le_refl _, Nat.le_refl _⟩ d_Desk_fault_38 d_Desk_fault_41 d_Desk_fault_42 d_Desk_fault_44 d_Desk_fault_47
end
theorem d_Desk_about_118 : decode prog_1_method_6_code 118 = .ok (.dup, 1) := by decide +kernel
theorem d_Desk_about_119 : decode prog_1_method_6_code 119 = .ok (.ldc 117, 2) := by decide +kernel
theorem d_Desk_about_121 : decode prog_1_method_6_code 121 = .ok (.invokespecial 72, 3) := by decide +kernel
theorem d_Desk_about_124 : decode prog_1_method_6_code 124 = .ok (.athrow, 1) := by decide +kernel
section
def E_Desk_about (x1 : Int32) (u : gSt) : Option Nat :=
  if x1 = (0 : Int32) then
    (none)
  else if x1 = (1 : Int32) then
    ((P_Board_genes u).bind fun q60 =>
    none)
  else if x1 = (2 : Int32) then
    (none)
  else if x1 = (3 : Int32) then
    (none)
  else if x1 = (4 : Int32) then
    (none)
  else if x1 = (5 : Int32) then
    (none)
  else if x1 = (6 : Int32) then
    (none)
  else if x1 = (7 : Int32) then
    (none)
  else 
    (some 1)
set_option maxHeartbeats 4000000 in
set_option maxRecDepth 100000 in
theorem e_Desk_about {l : Launch} {cy : Nat → ClassId} {D : va_G} {ρ : Nat → Nat} {A : Nat → Prop} (hfl : l.stackTraces = false) (hD : gD ρ A) {x1 : Int32} {u : gSt} {k : Nat} (hM : E_Desk_about x1 u = some k) : gCtT l y_Desk_about prog_1_method_6_code 2 (some .int) 6 90 cy D ρ A [.ref (ρ 0), .int x1] u (gEx k) := by
  refine g_metT (by decide) hD (Nat.le_of_ble_eq_true rfl) (fun p e s m below meth c ls C X2 hex hl hP => ?_)
  have hx := C.1
  have hb := C.2.1
  unfold E_Desk_about at hM
  have hl : lv_has ls 2 [(0, .ref (ρ 0)), (1, .int x1)] := hl
  refine lv_iload_n hx hb d_Desk_about_0 rfl (lv_at hl 1 rfl) ?_
  by_cases hc1_0 : x1 = (0 : Int32)
  · replace hM := gi_t hc1_0 hM
    refine g_tabIn (v := 0) (tgt := 48) hx hb d_Desk_about_1 hc1_0 (by decide) (by decide) (off := 47) (by decide) (by decide) ?_
    refine lv_aload_n hx hb d_Desk_about_48 rfl (lv_at hl 0 rfl) ?_
    refine g_getR (b := 4) C hP gl_Desk_25 rfl rfl rfl d_Desk_about_49 ?_
    refine g_getI C hP gl_Desk_85 rfl rfl d_Desk_about_52 ?_
    cases hM
  replace hM := gi_f hc1_0 hM
  by_cases hc1_1 : x1 = (1 : Int32)
  · replace hM := gi_t hc1_1 hM
    refine g_tabIn (v := 1) (tgt := 56) hx hb d_Desk_about_1 hc1_1 (by decide) (by decide) (off := 55) (by decide) (by decide) ?_
    refine lv_aload_n hx hb d_Desk_about_56 rfl (lv_at hl 0 rfl) ?_
    refine g_getR (b := 4) C hP gl_Desk_25 rfl rfl rfl d_Desk_about_57 ?_
    obtain ⟨q60, hq60, hM⟩ := gb_some hM
    refine g_callP (As := []) C hP (pc_Board_genes C.2.2.2.2.2.2.2.2.1 hq60) gi_Board_genes gm_Desk_90 rfl rfl (by decide) (by decide) hl.1 rfl (Nat.le_of_ble_eq_true rfl) d_Desk_about_60 ?_
    cases hM
  replace hM := gi_f hc1_1 hM
  by_cases hc1_2 : x1 = (2 : Int32)
  · replace hM := gi_t hc1_2 hM
    refine g_tabIn (v := 2) (tgt := 64) hx hb d_Desk_about_1 hc1_2 (by decide) (by decide) (off := 63) (by decide) (by decide) ?_
    refine lv_aload_n hx hb d_Desk_about_64 rfl (lv_at hl 0 rfl) ?_
    refine g_getR (b := 4) C hP gl_Desk_25 rfl rfl rfl d_Desk_about_65 ?_
    cases hM
  replace hM := gi_f hc1_2 hM
  by_cases hc1_3 : x1 = (3 : Int32)
  · replace hM := gi_t hc1_3 hM
    refine g_tabIn (v := 3) (tgt := 72) hx hb d_Desk_about_1 hc1_3 (by decide) (by decide) (off := 71) (by decide) (by decide) ?_
    refine lv_aload_n hx hb d_Desk_about_72 rfl (lv_at hl 0 rfl) ?_
    refine g_getR (b := 4) C hP gl_Desk_25 rfl rfl rfl d_Desk_about_73 ?_
    cases hM
  replace hM := gi_f hc1_3 hM
  by_cases hc1_4 : x1 = (4 : Int32)
  · replace hM := gi_t hc1_4 hM
    refine g_tabIn (v := 4) (tgt := 80) hx hb d_Desk_about_1 hc1_4 (by decide) (by decide) (off := 79) (by decide) (by decide) ?_
    refine lv_aload_n hx hb d_Desk_about_80 rfl (lv_at hl 0 rfl) ?_
    refine g_getR (b := 27) C hP gl_Desk_29 rfl rfl rfl d_Desk_about_81 ?_
    refine g_getI C hP gl_Desk_99 rfl rfl d_Desk_about_84 ?_
    cases hM
  replace hM := gi_f hc1_4 hM
  by_cases hc1_5 : x1 = (5 : Int32)
  · replace hM := gi_t hc1_5 hM
    refine g_tabIn (v := 5) (tgt := 88) hx hb d_Desk_about_1 hc1_5 (by decide) (by decide) (off := 87) (by decide) (by decide) ?_
    refine lv_aload_n hx hb d_Desk_about_88 rfl (lv_at hl 0 rfl) ?_
    refine g_getR (b := 4) C hP gl_Desk_25 rfl rfl rfl d_Desk_about_89 ?_
    refine g_getI C hP gl_Desk_102 rfl rfl d_Desk_about_92 ?_
    cases hM
  replace hM := gi_f hc1_5 hM
  by_cases hc1_6 : x1 = (6 : Int32)
  · replace hM := gi_t hc1_6 hM
    refine g_tabIn (v := 6) (tgt := 96) hx hb d_Desk_about_1 hc1_6 (by decide) (by decide) (off := 95) (by decide) (by decide) ?_
    refine lv_aload_n hx hb d_Desk_about_96 rfl (lv_at hl 0 rfl) ?_
    refine g_getR (b := 4) C hP gl_Desk_25 rfl rfl rfl d_Desk_about_97 ?_
    refine g_getI C hP gl_Desk_105 rfl rfl d_Desk_about_100 ?_
    cases hM
  replace hM := gi_f hc1_6 hM
  by_cases hc1_7 : x1 = (7 : Int32)
  · replace hM := gi_t hc1_7 hM
    refine g_tabIn (v := 7) (tgt := 104) hx hb d_Desk_about_1 hc1_7 (by decide) (by decide) (off := 103) (by decide) (by decide) ?_
    refine lv_aload_n hx hb d_Desk_about_104 rfl (lv_at hl 0 rfl) ?_
    refine g_getR (b := 4) C hP gl_Desk_25 rfl rfl rfl d_Desk_about_105 ?_
    refine g_getR (b := 5) C hP gl_Desk_108 rfl rfl rfl d_Desk_about_108 ?_
    refine g_getI C hP gl_Desk_112 rfl rfl d_Desk_about_111 ?_
    cases hM
  replace hM := gi_f hc1_7 hM
  refine lv_tableOut (tgt := 115) hx hb d_Desk_about_1 (by have := gneI (k := 0) hc1_0 (by decide); have := gneI (k := 0) hc1_0 (by decide); have := gneI (k := 1) hc1_1 (by decide); have := gneI (k := 2) hc1_2 (by decide); have := gneI (k := 3) hc1_3 (by decide); have := gneI (k := 4) hc1_4 (by decide); have := gneI (k := 5) hc1_5 (by decide); have := gneI (k := 6) hc1_6 (by decide); have := gneI (k := 7) hc1_7 (by decide); omega) (by decide) ?_
  obtain rfl := Option.some.inj hM
  exact g_thr C X2 hfl hex gow_68_72 (by decide : (117, "what is not 0 .. 7") ∈ gStrs) hl.1 (by decide) (by decide) ⟨Nat.le_refl _, Nat.le_refl _⟩ d_Desk_about_115 d_Desk_about_118 d_Desk_about_119 d_Desk_about_121 d_Desk_about_124
end
theorem d_Desk_term_14 : decode prog_1_method_7_code 14 = .ok (.dup, 1) := by decide +kernel
theorem d_Desk_term_15 : decode prog_1_method_7_code 15 = .ok (.ldc 125, 2) := by decide +kernel
theorem d_Desk_term_17 : decode prog_1_method_7_code 17 = .ok (.invokespecial 127, 3) := by decide +kernel
theorem d_Desk_term_20 : decode prog_1_method_7_code 20 = .ok (.athrow, 1) := by decide +kernel
theorem d_Desk_term_144 : decode prog_1_method_7_code 144 = .ok (.dup, 1) := by decide +kernel
theorem d_Desk_term_145 : decode prog_1_method_7_code 145 = .ok (.ldc 155, 2) := by decide +kernel
theorem d_Desk_term_147 : decode prog_1_method_7_code 147 = .ok (.invokespecial 72, 3) := by decide +kernel
theorem d_Desk_term_150 : decode prog_1_method_7_code 150 = .ok (.athrow, 1) := by decide +kernel
section
def E_Desk_term (x1 : Int32) (x2 : Int32) (u : gSt) : Option Nat :=
  (P_Board_hasTerm x1 u).bind fun q5 =>
  if q5 = (0 : Int32) then
    (some 2)
  else
    (if x2 = (0 : Int32) then
      (none)
    else if x2 = (1 : Int32) then
      (none)
    else if x2 = (2 : Int32) then
      (none)
    else if x2 = (3 : Int32) then
      (none)
    else if x2 = (4 : Int32) then
      (none)
    else if x2 = (5 : Int32) then
      (none)
    else if x2 = (6 : Int32) then
      (none)
    else 
      (some 1))
set_option maxHeartbeats 4000000 in
set_option maxRecDepth 100000 in
theorem e_Desk_term {l : Launch} {cy : Nat → ClassId} {D : va_G} {ρ : Nat → Nat} {A : Nat → Prop} (hfl : l.stackTraces = false) (hD : gD ρ A) {x1 : Int32} {x2 : Int32} {u : gSt} {k : Nat} (hM : E_Desk_term x1 x2 u = some k) : gCtT l y_Desk_term prog_1_method_7_code 3 (some .int) 6 90 cy D ρ A [.ref (ρ 0), .int x1, .int x2] u (gEx k) := by
  refine g_metT (by decide) hD (Nat.le_of_ble_eq_true rfl) (fun p e s m below meth c ls C X2 hex hl hP => ?_)
  have hx := C.1
  have hb := C.2.1
  unfold E_Desk_term at hM
  have hl : lv_has ls 3 [(0, .ref (ρ 0)), (1, .int x1), (2, .int x2)] := hl
  refine lv_aload_n hx hb d_Desk_term_0 rfl (lv_at hl 0 rfl) ?_
  refine g_getR (b := 4) C hP gl_Desk_25 rfl rfl rfl d_Desk_term_1 ?_
  refine lv_iload_n hx hb d_Desk_term_4 rfl (lv_at hl 1 rfl) ?_
  obtain ⟨q5, hq5, hM⟩ := gb_some hM
  refine g_callP (As := [.int x1]) C hP (pc_Board_hasTerm C.2.2.2.2.2.2.2.2.1 hq5) gi_Board_hasTerm gm_Desk_119 rfl rfl (by decide) (by decide) hl.1 rfl (Nat.le_of_ble_eq_true rfl) d_Desk_term_5 ?_
  refine lv_if_ne (tgt := 21) hx hb d_Desk_term_8 (by decide) (fun hc8 => ?_) (fun hc8 => ?_)
  · replace hM := gi_f hc8 hM
    refine lv_iload_n hx hb d_Desk_term_21 rfl (lv_at hl 2 rfl) ?_
    by_cases hc22_0 : x2 = (0 : Int32)
    · replace hM := gi_t hc22_0 hM
      refine g_tabIn (v := 0) (tgt := 64) hx hb d_Desk_term_22 hc22_0 (by decide) (by decide) (off := 42) (by decide) (by decide) ?_
      refine lv_aload_n hx hb d_Desk_term_64 rfl (lv_at hl 0 rfl) ?_
      refine g_getR (b := 4) C hP gl_Desk_25 rfl rfl rfl d_Desk_term_65 ?_
      refine g_getR (b := 13) C hP gl_Desk_128 rfl rfl rfl d_Desk_term_68 ?_
      refine lv_iload_n hx hb d_Desk_term_71 rfl (lv_at hl 1 rfl) ?_
      cases hM
    replace hM := gi_f hc22_0 hM
    by_cases hc22_1 : x2 = (1 : Int32)
    · replace hM := gi_t hc22_1 hM
      refine g_tabIn (v := 1) (tgt := 76) hx hb d_Desk_term_22 hc22_1 (by decide) (by decide) (off := 54) (by decide) (by decide) ?_
      refine lv_aload_n hx hb d_Desk_term_76 rfl (lv_at hl 0 rfl) ?_
      refine g_getR (b := 4) C hP gl_Desk_25 rfl rfl rfl d_Desk_term_77 ?_
      refine g_getR (b := 15) C hP gl_Desk_137 rfl rfl rfl d_Desk_term_80 ?_
      refine lv_iload_n hx hb d_Desk_term_83 rfl (lv_at hl 1 rfl) ?_
      cases hM
    replace hM := gi_f hc22_1 hM
    by_cases hc22_2 : x2 = (2 : Int32)
    · replace hM := gi_t hc22_2 hM
      refine g_tabIn (v := 2) (tgt := 88) hx hb d_Desk_term_22 hc22_2 (by decide) (by decide) (off := 66) (by decide) (by decide) ?_
      refine lv_aload_n hx hb d_Desk_term_88 rfl (lv_at hl 0 rfl) ?_
      refine g_getR (b := 4) C hP gl_Desk_25 rfl rfl rfl d_Desk_term_89 ?_
      refine lv_iload_n hx hb d_Desk_term_92 rfl (lv_at hl 1 rfl) ?_
      cases hM
    replace hM := gi_f hc22_2 hM
    by_cases hc22_3 : x2 = (3 : Int32)
    · replace hM := gi_t hc22_3 hM
      refine g_tabIn (v := 3) (tgt := 97) hx hb d_Desk_term_22 hc22_3 (by decide) (by decide) (off := 75) (by decide) (by decide) ?_
      refine lv_aload_n hx hb d_Desk_term_97 rfl (lv_at hl 0 rfl) ?_
      refine g_getR (b := 4) C hP gl_Desk_25 rfl rfl rfl d_Desk_term_98 ?_
      refine lv_iload_n hx hb d_Desk_term_101 rfl (lv_at hl 1 rfl) ?_
      cases hM
    replace hM := gi_f hc22_3 hM
    by_cases hc22_4 : x2 = (4 : Int32)
    · replace hM := gi_t hc22_4 hM
      refine g_tabIn (v := 4) (tgt := 106) hx hb d_Desk_term_22 hc22_4 (by decide) (by decide) (off := 84) (by decide) (by decide) ?_
      refine lv_aload_n hx hb d_Desk_term_106 rfl (lv_at hl 0 rfl) ?_
      refine g_getR (b := 4) C hP gl_Desk_25 rfl rfl rfl d_Desk_term_107 ?_
      refine lv_iload_n hx hb d_Desk_term_110 rfl (lv_at hl 1 rfl) ?_
      cases hM
    replace hM := gi_f hc22_4 hM
    by_cases hc22_5 : x2 = (5 : Int32)
    · replace hM := gi_t hc22_5 hM
      refine g_tabIn (v := 5) (tgt := 115) hx hb d_Desk_term_22 hc22_5 (by decide) (by decide) (off := 93) (by decide) (by decide) ?_
      refine lv_aload_n hx hb d_Desk_term_115 rfl (lv_at hl 0 rfl) ?_
      refine g_getR (b := 4) C hP gl_Desk_25 rfl rfl rfl d_Desk_term_116 ?_
      refine lv_iload_n hx hb d_Desk_term_119 rfl (lv_at hl 1 rfl) ?_
      cases hM
    replace hM := gi_f hc22_5 hM
    by_cases hc22_6 : x2 = (6 : Int32)
    · replace hM := gi_t hc22_6 hM
      refine g_tabIn (v := 6) (tgt := 132) hx hb d_Desk_term_22 hc22_6 (by decide) (by decide) (off := 110) (by decide) (by decide) ?_
      refine lv_aload_n hx hb d_Desk_term_132 rfl (lv_at hl 0 rfl) ?_
      refine g_getR (b := 4) C hP gl_Desk_25 rfl rfl rfl d_Desk_term_133 ?_
      refine lv_iload_n hx hb d_Desk_term_136 rfl (lv_at hl 1 rfl) ?_
      cases hM
    replace hM := gi_f hc22_6 hM
    refine lv_tableOut (tgt := 141) hx hb d_Desk_term_22 (by have := gneI (k := 0) hc22_0 (by decide); have := gneI (k := 0) hc22_0 (by decide); have := gneI (k := 1) hc22_1 (by decide); have := gneI (k := 2) hc22_2 (by decide); have := gneI (k := 3) hc22_3 (by decide); have := gneI (k := 4) hc22_4 (by decide); have := gneI (k := 5) hc22_5 (by decide); have := gneI (k := 6) hc22_6 (by decide); omega) (by decide) ?_
    obtain rfl := Option.some.inj hM
    exact g_thr C X2 hfl hex gow_68_72 (by decide : (155, "what is not 0 .. 6") ∈ gStrs) hl.1 (by decide) (by decide) ⟨Nat.le_refl _, Nat.le_refl _⟩ d_Desk_term_141 d_Desk_term_144 d_Desk_term_145 d_Desk_term_147 d_Desk_term_150
  · replace hM := gi_t hc8 hM
    obtain rfl := Option.some.inj hM
    exact g_thr C X2 hfl hex gow_123_127 (by decide : (125, "no such term") ∈ gStrs) hl.1 (by decide) (by decide) ⟨Nat.le_refl _, Nat.le_refl _⟩ d_Desk_term_11 d_Desk_term_14 d_Desk_term_15 d_Desk_term_17 d_Desk_term_20
end
theorem d_Desk_letter_32 : decode prog_1_method_8_code 32 = .ok (.dup, 1) := by decide +kernel
theorem d_Desk_letter_33 : decode prog_1_method_8_code 33 = .ok (.ldc 160, 2) := by decide +kernel
theorem d_Desk_letter_35 : decode prog_1_method_8_code 35 = .ok (.invokespecial 127, 3) := by decide +kernel
theorem d_Desk_letter_38 : decode prog_1_method_8_code 38 = .ok (.athrow, 1) := by decide +kernel
section
def E_Desk_letter (x1 : Int32) (x2 : Int32) (x3 : Int32) (u : gSt) : Option Nat :=
  if x2 = (0 : Int32) then
    ((P_Board_hasTerm x1 u).bind fun q23 =>
    if q23 = (0 : Int32) then
      (some 2)
    else
      (if x2 = (0 : Int32) then
        (none)
      else
        (none)))
  else
    ((P_Board_hasGene x1 u).bind fun q9 =>
    if q9 = (0 : Int32) then
      (some 2)
    else
      (if x2 = (0 : Int32) then
        (none)
      else
        (none)))
set_option maxHeartbeats 4000000 in
set_option maxRecDepth 100000 in
theorem e_Desk_letter {l : Launch} {cy : Nat → ClassId} {D : va_G} {ρ : Nat → Nat} {A : Nat → Prop} (hfl : l.stackTraces = false) (hD : gD ρ A) {x1 : Int32} {x2 : Int32} {x3 : Int32} {u : gSt} {k : Nat} (hM : E_Desk_letter x1 x2 x3 u = some k) : gCtT l y_Desk_letter prog_1_method_8_code 4 (some .int) 6 90 cy D ρ A [.ref (ρ 0), .int x1, .int x2, .int x3] u (gEx k) := by
  refine g_metT (by decide) hD (Nat.le_of_ble_eq_true rfl) (fun p e s m below meth c ls C X2 hex hl hP => ?_)
  have hx := C.1
  have hb := C.2.1
  unfold E_Desk_letter at hM
  have hl : lv_has ls 4 [(0, .ref (ρ 0)), (1, .int x1), (2, .int x2), (3, .int x3)] := hl
  refine lv_iload_n hx hb d_Desk_letter_0 rfl (lv_at hl 2 rfl) ?_
  refine lv_if_eq (tgt := 18) hx hb d_Desk_letter_1 (by decide) (fun hc1 => ?_) (fun hc1 => ?_)
  · replace hM := gi_t hc1 hM
    refine lv_aload_n hx hb d_Desk_letter_18 rfl (lv_at hl 0 rfl) ?_
    refine g_getR (b := 4) C hP gl_Desk_25 rfl rfl rfl d_Desk_letter_19 ?_
    refine lv_iload_n hx hb d_Desk_letter_22 rfl (lv_at hl 1 rfl) ?_
    obtain ⟨q23, hq23, hM⟩ := gb_some hM
    refine g_callP (As := [.int x1]) C hP (pc_Board_hasTerm C.2.2.2.2.2.2.2.2.1 hq23) gi_Board_hasTerm gm_Desk_119 rfl rfl (by decide) (by decide) hl.1 rfl (Nat.le_of_ble_eq_true rfl) d_Desk_letter_23 ?_
    refine lv_if_ne (tgt := 39) hx hb d_Desk_letter_26 (by decide) (fun hc26 => ?_) (fun hc26 => ?_)
    · replace hM := gi_f hc26 hM
      refine lv_iload_n hx hb d_Desk_letter_39 rfl (lv_at hl 2 rfl) ?_
      refine lv_if_eq (tgt := 58) hx hb d_Desk_letter_40 (by decide) (fun hc40 => ?_) (fun hc40 => ?_)
      · replace hM := gi_t hc40 hM
        refine lv_aload_n hx hb d_Desk_letter_58 rfl (lv_at hl 0 rfl) ?_
        refine g_getR (b := 4) C hP gl_Desk_25 rfl rfl rfl d_Desk_letter_59 ?_
        refine g_getR (b := 5) C hP gl_Desk_108 rfl rfl rfl d_Desk_letter_62 ?_
        refine lv_iload_n hx hb d_Desk_letter_65 rfl (lv_at hl 1 rfl) ?_
        refine lv_iload_n hx hb d_Desk_letter_66 rfl (lv_at hl 3 rfl) ?_
        cases hM
      · replace hM := gi_f hc40 hM
        refine lv_aload_n hx hb d_Desk_letter_43 rfl (lv_at hl 0 rfl) ?_
        refine g_getR (b := 4) C hP gl_Desk_25 rfl rfl rfl d_Desk_letter_44 ?_
        refine g_getR (b := 9) C hP gl_Desk_162 rfl rfl rfl d_Desk_letter_47 ?_
        refine lv_iload_n hx hb d_Desk_letter_50 rfl (lv_at hl 1 rfl) ?_
        refine lv_iload_n hx hb d_Desk_letter_51 rfl (lv_at hl 3 rfl) ?_
        cases hM
    · replace hM := gi_t hc26 hM
      obtain rfl := Option.some.inj hM
      exact g_thr C X2 hfl hex gow_123_127 (by decide : (160, "no such term or gene") ∈ gStrs) hl.1 (by decide) (by decide) ⟨Nat.le_refl _, Nat.le_refl _⟩ d_Desk_letter_29 d_Desk_letter_32 d_Desk_letter_33 d_Desk_letter_35 d_Desk_letter_38
  · replace hM := gi_f hc1 hM
    refine lv_aload_n hx hb d_Desk_letter_4 rfl (lv_at hl 0 rfl) ?_
    refine g_getR (b := 4) C hP gl_Desk_25 rfl rfl rfl d_Desk_letter_5 ?_
    refine lv_iload_n hx hb d_Desk_letter_8 rfl (lv_at hl 1 rfl) ?_
    obtain ⟨q9, hq9, hM⟩ := gb_some hM
    refine g_callP (As := [.int x1]) C hP (pc_Board_hasGene C.2.2.2.2.2.2.2.2.1 hq9) gi_Board_hasGene gm_Desk_157 rfl rfl (by decide) (by decide) hl.1 rfl (Nat.le_of_ble_eq_true rfl) d_Desk_letter_9 ?_
    refine lv_if_ne (tgt := 39) hx hb d_Desk_letter_12 (by decide) (fun hc12 => ?_) (fun hc12 => ?_)
    · replace hM := gi_f hc12 hM
      refine lv_iload_n hx hb d_Desk_letter_39 rfl (lv_at hl 2 rfl) ?_
      refine lv_if_eq (tgt := 58) hx hb d_Desk_letter_40 (by decide) (fun hc40 => ?_) (fun hc40 => ?_)
      · replace hM := gi_t hc40 hM
        refine lv_aload_n hx hb d_Desk_letter_58 rfl (lv_at hl 0 rfl) ?_
        refine g_getR (b := 4) C hP gl_Desk_25 rfl rfl rfl d_Desk_letter_59 ?_
        refine g_getR (b := 5) C hP gl_Desk_108 rfl rfl rfl d_Desk_letter_62 ?_
        refine lv_iload_n hx hb d_Desk_letter_65 rfl (lv_at hl 1 rfl) ?_
        refine lv_iload_n hx hb d_Desk_letter_66 rfl (lv_at hl 3 rfl) ?_
        cases hM
      · replace hM := gi_f hc40 hM
        refine lv_aload_n hx hb d_Desk_letter_43 rfl (lv_at hl 0 rfl) ?_
        refine g_getR (b := 4) C hP gl_Desk_25 rfl rfl rfl d_Desk_letter_44 ?_
        refine g_getR (b := 9) C hP gl_Desk_162 rfl rfl rfl d_Desk_letter_47 ?_
        refine lv_iload_n hx hb d_Desk_letter_50 rfl (lv_at hl 1 rfl) ?_
        refine lv_iload_n hx hb d_Desk_letter_51 rfl (lv_at hl 3 rfl) ?_
        cases hM
    · replace hM := gi_t hc12 hM
      refine lv_goto (tgt := 29) hx hb d_Desk_letter_15 (by decide) ?_
      obtain rfl := Option.some.inj hM
      exact g_thr C X2 hfl hex gow_123_127 (by decide : (160, "no such term or gene") ∈ gStrs) hl.1 (by decide) (by decide) ⟨Nat.le_refl _, Nat.le_refl _⟩ d_Desk_letter_29 d_Desk_letter_32 d_Desk_letter_33 d_Desk_letter_35 d_Desk_letter_38
end
theorem d_Desk_isAbove_25 : decode prog_1_method_9_code 25 = .ok (.dup, 1) := by decide +kernel
theorem d_Desk_isAbove_26 : decode prog_1_method_9_code 26 = .ok (.ldc 125, 2) := by decide +kernel
theorem d_Desk_isAbove_28 : decode prog_1_method_9_code 28 = .ok (.invokespecial 127, 3) := by decide +kernel
theorem d_Desk_isAbove_31 : decode prog_1_method_9_code 31 = .ok (.athrow, 1) := by decide +kernel
section
def E_Desk_isAbove (x1 : Int32) (x2 : Int32) (u : gSt) : Option Nat :=
  (P_Board_hasTerm x1 u).bind fun q5 =>
  if q5 = (0 : Int32) then
    (some 2)
  else
    ((P_Board_hasTerm x2 u).bind fun q16 =>
    if q16 = (0 : Int32) then
      (some 2)
    else
      (none))
set_option maxHeartbeats 4000000 in
set_option maxRecDepth 100000 in
theorem e_Desk_isAbove {l : Launch} {cy : Nat → ClassId} {D : va_G} {ρ : Nat → Nat} {A : Nat → Prop} (hfl : l.stackTraces = false) (hD : gD ρ A) {x1 : Int32} {x2 : Int32} {u : gSt} {k : Nat} (hM : E_Desk_isAbove x1 x2 u = some k) : gCtT l y_Desk_isAbove prog_1_method_9_code 3 (some .boolean) 6 90 cy D ρ A [.ref (ρ 0), .int x1, .int x2] u (gEx k) := by
  refine g_metT (by decide) hD (Nat.le_of_ble_eq_true rfl) (fun p e s m below meth c ls C X2 hex hl hP => ?_)
  have hx := C.1
  have hb := C.2.1
  unfold E_Desk_isAbove at hM
  have hl : lv_has ls 3 [(0, .ref (ρ 0)), (1, .int x1), (2, .int x2)] := hl
  refine lv_aload_n hx hb d_Desk_isAbove_0 rfl (lv_at hl 0 rfl) ?_
  refine g_getR (b := 4) C hP gl_Desk_25 rfl rfl rfl d_Desk_isAbove_1 ?_
  refine lv_iload_n hx hb d_Desk_isAbove_4 rfl (lv_at hl 1 rfl) ?_
  obtain ⟨q5, hq5, hM⟩ := gb_some hM
  refine g_callP (As := [.int x1]) C hP (pc_Board_hasTerm C.2.2.2.2.2.2.2.2.1 hq5) gi_Board_hasTerm gm_Desk_119 rfl rfl (by decide) (by decide) hl.1 rfl (Nat.le_of_ble_eq_true rfl) d_Desk_isAbove_5 ?_
  refine lv_if_eq (tgt := 22) hx hb d_Desk_isAbove_8 (by decide) (fun hc8 => ?_) (fun hc8 => ?_)
  · replace hM := gi_t hc8 hM
    obtain rfl := Option.some.inj hM
    exact g_thr C X2 hfl hex gow_123_127 (by decide : (125, "no such term") ∈ gStrs) hl.1 (by decide) (by decide) ⟨Nat.le_refl _, Nat.le_refl _⟩ d_Desk_isAbove_22 d_Desk_isAbove_25 d_Desk_isAbove_26 d_Desk_isAbove_28 d_Desk_isAbove_31
  · replace hM := gi_f hc8 hM
    refine lv_aload_n hx hb d_Desk_isAbove_11 rfl (lv_at hl 0 rfl) ?_
    refine g_getR (b := 4) C hP gl_Desk_25 rfl rfl rfl d_Desk_isAbove_12 ?_
    refine lv_iload_n hx hb d_Desk_isAbove_15 rfl (lv_at hl 2 rfl) ?_
    obtain ⟨q16, hq16, hM⟩ := gb_some hM
    refine g_callP (As := [.int x2]) C hP (pc_Board_hasTerm C.2.2.2.2.2.2.2.2.1 hq16) gi_Board_hasTerm gm_Desk_119 rfl rfl (by decide) (by decide) hl.1 rfl (Nat.le_of_ble_eq_true rfl) d_Desk_isAbove_16 ?_
    refine lv_if_ne (tgt := 32) hx hb d_Desk_isAbove_19 (by decide) (fun hc19 => ?_) (fun hc19 => ?_)
    · replace hM := gi_f hc19 hM
      refine lv_aload_n hx hb d_Desk_isAbove_32 rfl (lv_at hl 0 rfl) ?_
      refine g_getR (b := 4) C hP gl_Desk_25 rfl rfl rfl d_Desk_isAbove_33 ?_
      refine g_getR (b := 15) C hP gl_Desk_137 rfl rfl rfl d_Desk_isAbove_36 ?_
      refine lv_iload_n hx hb d_Desk_isAbove_39 rfl (lv_at hl 2 rfl) ?_
      refine lv_iload_n hx hb d_Desk_isAbove_40 rfl (lv_at hl 1 rfl) ?_
      cases hM
    · replace hM := gi_t hc19 hM
      obtain rfl := Option.some.inj hM
      exact g_thr C X2 hfl hex gow_123_127 (by decide : (125, "no such term") ∈ gStrs) hl.1 (by decide) (by decide) ⟨Nat.le_refl _, Nat.le_refl _⟩ d_Desk_isAbove_22 d_Desk_isAbove_25 d_Desk_isAbove_26 d_Desk_isAbove_28 d_Desk_isAbove_31
end
theorem d_Desk_isAt_25 : decode prog_1_method_10_code 25 = .ok (.dup, 1) := by decide +kernel
theorem d_Desk_isAt_26 : decode prog_1_method_10_code 26 = .ok (.ldc 173, 2) := by decide +kernel
theorem d_Desk_isAt_28 : decode prog_1_method_10_code 28 = .ok (.invokespecial 127, 3) := by decide +kernel
theorem d_Desk_isAt_31 : decode prog_1_method_10_code 31 = .ok (.athrow, 1) := by decide +kernel
section
def E_Desk_isAt (x1 : Int32) (x2 : Int32) (u : gSt) : Option Nat :=
  (P_Board_hasGene x1 u).bind fun q5 =>
  if q5 = (0 : Int32) then
    (some 2)
  else
    ((P_Board_hasTerm x2 u).bind fun q16 =>
    if q16 = (0 : Int32) then
      (some 2)
    else
      (none))
set_option maxHeartbeats 4000000 in
set_option maxRecDepth 100000 in
theorem e_Desk_isAt {l : Launch} {cy : Nat → ClassId} {D : va_G} {ρ : Nat → Nat} {A : Nat → Prop} (hfl : l.stackTraces = false) (hD : gD ρ A) {x1 : Int32} {x2 : Int32} {u : gSt} {k : Nat} (hM : E_Desk_isAt x1 x2 u = some k) : gCtT l y_Desk_isAt prog_1_method_10_code 3 (some .boolean) 6 90 cy D ρ A [.ref (ρ 0), .int x1, .int x2] u (gEx k) := by
  refine g_metT (by decide) hD (Nat.le_of_ble_eq_true rfl) (fun p e s m below meth c ls C X2 hex hl hP => ?_)
  have hx := C.1
  have hb := C.2.1
  unfold E_Desk_isAt at hM
  have hl : lv_has ls 3 [(0, .ref (ρ 0)), (1, .int x1), (2, .int x2)] := hl
  refine lv_aload_n hx hb d_Desk_isAt_0 rfl (lv_at hl 0 rfl) ?_
  refine g_getR (b := 4) C hP gl_Desk_25 rfl rfl rfl d_Desk_isAt_1 ?_
  refine lv_iload_n hx hb d_Desk_isAt_4 rfl (lv_at hl 1 rfl) ?_
  obtain ⟨q5, hq5, hM⟩ := gb_some hM
  refine g_callP (As := [.int x1]) C hP (pc_Board_hasGene C.2.2.2.2.2.2.2.2.1 hq5) gi_Board_hasGene gm_Desk_157 rfl rfl (by decide) (by decide) hl.1 rfl (Nat.le_of_ble_eq_true rfl) d_Desk_isAt_5 ?_
  refine lv_if_eq (tgt := 22) hx hb d_Desk_isAt_8 (by decide) (fun hc8 => ?_) (fun hc8 => ?_)
  · replace hM := gi_t hc8 hM
    obtain rfl := Option.some.inj hM
    exact g_thr C X2 hfl hex gow_123_127 (by decide : (173, "no such gene or term") ∈ gStrs) hl.1 (by decide) (by decide) ⟨Nat.le_refl _, Nat.le_refl _⟩ d_Desk_isAt_22 d_Desk_isAt_25 d_Desk_isAt_26 d_Desk_isAt_28 d_Desk_isAt_31
  · replace hM := gi_f hc8 hM
    refine lv_aload_n hx hb d_Desk_isAt_11 rfl (lv_at hl 0 rfl) ?_
    refine g_getR (b := 4) C hP gl_Desk_25 rfl rfl rfl d_Desk_isAt_12 ?_
    refine lv_iload_n hx hb d_Desk_isAt_15 rfl (lv_at hl 2 rfl) ?_
    obtain ⟨q16, hq16, hM⟩ := gb_some hM
    refine g_callP (As := [.int x2]) C hP (pc_Board_hasTerm C.2.2.2.2.2.2.2.2.1 hq16) gi_Board_hasTerm gm_Desk_119 rfl rfl (by decide) (by decide) hl.1 rfl (Nat.le_of_ble_eq_true rfl) d_Desk_isAt_16 ?_
    refine lv_if_ne (tgt := 32) hx hb d_Desk_isAt_19 (by decide) (fun hc19 => ?_) (fun hc19 => ?_)
    · replace hM := gi_f hc19 hM
      refine lv_aload_n hx hb d_Desk_isAt_32 rfl (lv_at hl 0 rfl) ?_
      refine g_getR (b := 4) C hP gl_Desk_25 rfl rfl rfl d_Desk_isAt_33 ?_
      refine g_getR (b := 19) C hP gl_Desk_175 rfl rfl rfl d_Desk_isAt_36 ?_
      refine lv_iload_n hx hb d_Desk_isAt_39 rfl (lv_at hl 2 rfl) ?_
      refine lv_iload_n hx hb d_Desk_isAt_40 rfl (lv_at hl 1 rfl) ?_
      cases hM
    · replace hM := gi_t hc19 hM
      obtain rfl := Option.some.inj hM
      exact g_thr C X2 hfl hex gow_123_127 (by decide : (173, "no such gene or term") ∈ gStrs) hl.1 (by decide) (by decide) ⟨Nat.le_refl _, Nat.le_refl _⟩ d_Desk_isAt_22 d_Desk_isAt_25 d_Desk_isAt_26 d_Desk_isAt_28 d_Desk_isAt_31
end
theorem d_Desk_report_21 : decode prog_1_method_11_code 21 = .ok (.dup, 1) := by decide +kernel
theorem d_Desk_report_22 : decode prog_1_method_11_code 22 = .ok (.ldc 178, 2) := by decide +kernel
theorem d_Desk_report_24 : decode prog_1_method_11_code 24 = .ok (.invokespecial 72, 3) := by decide +kernel
theorem d_Desk_report_27 : decode prog_1_method_11_code 27 = .ok (.athrow, 1) := by decide +kernel
section
def E_Desk_report (x1 : Int32) (x2 : Int32) (x3 : Int32) (u : gSt) : Option Nat :=
  if x1 < (0 : Int32) then
    (some 1)
  else
    (if (4 : Int32) ≤ x1 then
      (some 1)
    else
      (if x2 < (0 : Int32) then
        (some 1)
      else
        (if (1 : Int32) ≤ x3 then
          (if (u.1 0 7) = (0 : Int32) then
            (none)
          else
            (none))
        else
          (some 1))))
set_option maxHeartbeats 4000000 in
set_option maxRecDepth 100000 in
theorem e_Desk_report {l : Launch} {cy : Nat → ClassId} {D : va_G} {ρ : Nat → Nat} {A : Nat → Prop} (hfl : l.stackTraces = false) (hD : gD ρ A) {x1 : Int32} {x2 : Int32} {x3 : Int32} {u : gSt} {k : Nat} (hM : E_Desk_report x1 x2 x3 u = some k) : gCtT l y_Desk_report prog_1_method_11_code 4 (some .int) 6 90 cy D ρ A [.ref (ρ 0), .int x1, .int x2, .int x3] u (gEx k) := by
  refine g_metT (by decide) hD (Nat.le_of_ble_eq_true rfl) (fun p e s m below meth c ls C X2 hex hl hP => ?_)
  have hx := C.1
  have hb := C.2.1
  unfold E_Desk_report at hM
  have hl : lv_has ls 4 [(0, .ref (ρ 0)), (1, .int x1), (2, .int x2), (3, .int x3)] := hl
  refine lv_iload_n hx hb d_Desk_report_0 rfl (lv_at hl 1 rfl) ?_
  refine lv_if_lt (tgt := 18) hx hb d_Desk_report_1 (by decide) (fun hc1 => ?_) (fun hc1 => ?_)
  · replace hM := gi_t hc1 hM
    obtain rfl := Option.some.inj hM
    exact g_thr C X2 hfl hex gow_68_72 (by decide : (178, "no such value, or no such cut-off") ∈ gStrs) hl.1 (by decide) (by decide) ⟨Nat.le_refl _, Nat.le_refl _⟩ d_Desk_report_18 d_Desk_report_21 d_Desk_report_22 d_Desk_report_24 d_Desk_report_27
  · replace hM := gi_f hc1 hM
    refine lv_iload_n hx hb d_Desk_report_4 rfl (lv_at hl 1 rfl) ?_
    refine lv_iconst (v := (4 : Int32)) hx hb d_Desk_report_5 (by decide) ?_
    refine lv_icmp_ge (tgt := 18) hx hb d_Desk_report_6 (by decide) (fun hc6 => ?_) (fun hc6 => ?_)
    · replace hM := gi_t hc6 hM
      obtain rfl := Option.some.inj hM
      exact g_thr C X2 hfl hex gow_68_72 (by decide : (178, "no such value, or no such cut-off") ∈ gStrs) hl.1 (by decide) (by decide) ⟨Nat.le_refl _, Nat.le_refl _⟩ d_Desk_report_18 d_Desk_report_21 d_Desk_report_22 d_Desk_report_24 d_Desk_report_27
    · replace hM := gi_f hc6 hM
      refine lv_iload_n hx hb d_Desk_report_9 rfl (lv_at hl 2 rfl) ?_
      refine lv_if_lt (tgt := 18) hx hb d_Desk_report_10 (by decide) (fun hc10 => ?_) (fun hc10 => ?_)
      · replace hM := gi_t hc10 hM
        obtain rfl := Option.some.inj hM
        exact g_thr C X2 hfl hex gow_68_72 (by decide : (178, "no such value, or no such cut-off") ∈ gStrs) hl.1 (by decide) (by decide) ⟨Nat.le_refl _, Nat.le_refl _⟩ d_Desk_report_18 d_Desk_report_21 d_Desk_report_22 d_Desk_report_24 d_Desk_report_27
      · replace hM := gi_f hc10 hM
        refine lv_iload_n hx hb d_Desk_report_13 rfl (lv_at hl 3 rfl) ?_
        refine lv_iconst (v := (1 : Int32)) hx hb d_Desk_report_14 (by decide) ?_
        refine lv_icmp_ge (tgt := 28) hx hb d_Desk_report_15 (by decide) (fun hc15 => ?_) (fun hc15 => ?_)
        · replace hM := gi_t hc15 hM
          refine lv_aload_n hx hb d_Desk_report_28 rfl (lv_at hl 0 rfl) ?_
          refine g_getI C hP gl_Desk_47 rfl rfl d_Desk_report_29 ?_
          refine lv_if_ne (tgt := 51) hx hb d_Desk_report_32 (by decide) (fun hc32 => ?_) (fun hc32 => ?_)
          · replace hM := gi_f hc32 hM
            refine lv_aload_n hx hb d_Desk_report_51 rfl (lv_at hl 0 rfl) ?_
            refine g_getR (b := 27) C hP gl_Desk_29 rfl rfl rfl d_Desk_report_52 ?_
            refine lv_iload_n hx hb d_Desk_report_55 rfl (lv_at hl 1 rfl) ?_
            refine lv_iload_n hx hb d_Desk_report_56 rfl (lv_at hl 2 rfl) ?_
            refine lv_iload_n hx hb d_Desk_report_57 rfl (lv_at hl 3 rfl) ?_
            cases hM
          · replace hM := gi_t hc32 hM
            refine lv_aload_n hx hb d_Desk_report_35 rfl (lv_at hl 0 rfl) ?_
            refine g_getR (b := 27) C hP gl_Desk_29 rfl rfl rfl d_Desk_report_36 ?_
            refine lv_aload_n hx hb d_Desk_report_39 rfl (lv_at hl 0 rfl) ?_
            refine g_getR (b := 4) C hP gl_Desk_25 rfl rfl rfl d_Desk_report_40 ?_
            cases hM
        · replace hM := gi_f hc15 hM
          obtain rfl := Option.some.inj hM
          exact g_thr C X2 hfl hex gow_68_72 (by decide : (178, "no such value, or no such cut-off") ∈ gStrs) hl.1 (by decide) (by decide) ⟨Nat.le_refl _, Nat.le_refl _⟩ d_Desk_report_18 d_Desk_report_21 d_Desk_report_22 d_Desk_report_24 d_Desk_report_27
end
theorem d_Desk_row_14 : decode prog_1_method_12_code 14 = .ok (.dup, 1) := by decide +kernel
theorem d_Desk_row_15 : decode prog_1_method_12_code 15 = .ok (.ldc 191, 2) := by decide +kernel
theorem d_Desk_row_17 : decode prog_1_method_12_code 17 = .ok (.invokespecial 127, 3) := by decide +kernel
theorem d_Desk_row_20 : decode prog_1_method_12_code 20 = .ok (.athrow, 1) := by decide +kernel
theorem d_Desk_row_117 : decode prog_1_method_12_code 117 = .ok (.dup, 1) := by decide +kernel
theorem d_Desk_row_118 : decode prog_1_method_12_code 118 = .ok (.ldc 210, 2) := by decide +kernel
theorem d_Desk_row_120 : decode prog_1_method_12_code 120 = .ok (.invokespecial 72, 3) := by decide +kernel
theorem d_Desk_row_123 : decode prog_1_method_12_code 123 = .ok (.athrow, 1) := by decide +kernel
section
def E_Desk_row (x1 : Int32) (x2 : Int32) (u : gSt) : Option Nat :=
  (P_Ranking_hasRow x1 u).bind fun q5 =>
  if q5 = (0 : Int32) then
    (some 2)
  else
    (gc (gIn x1 (gLen 35)) <| if x2 = (0 : Int32) then
      (gc (gIn (u.2.2.1 35 (gIx x1)) (gLen 28)) <| none)
    else if x2 = (1 : Int32) then
      (gc (gIn (u.2.2.1 35 (gIx x1)) (gLen 29)) <| none)
    else if x2 = (2 : Int32) then
      (none)
    else if x2 = (3 : Int32) then
      (gc (gIn (u.2.2.1 35 (gIx x1)) (gLen 30)) <| none)
    else if x2 = (4 : Int32) then
      (none)
    else 
      (some 1))
set_option maxHeartbeats 4000000 in
set_option maxRecDepth 100000 in
theorem e_Desk_row {l : Launch} {cy : Nat → ClassId} {D : va_G} {ρ : Nat → Nat} {A : Nat → Prop} (hfl : l.stackTraces = false) (hD : gD ρ A) {x1 : Int32} {x2 : Int32} {u : gSt} {k : Nat} (hM : E_Desk_row x1 x2 u = some k) : gCtT l y_Desk_row prog_1_method_12_code 4 (some .int) 6 90 cy D ρ A [.ref (ρ 0), .int x1, .int x2] u (gEx k) := by
  refine g_metT (by decide) hD (Nat.le_of_ble_eq_true rfl) (fun p e s m below meth c ls C X2 hex hl hP => ?_)
  have hx := C.1
  have hb := C.2.1
  unfold E_Desk_row at hM
  have hl : lv_has ls 4 [(0, .ref (ρ 0)), (1, .int x1), (2, .int x2)] := hl
  refine lv_aload_n hx hb d_Desk_row_0 rfl (lv_at hl 0 rfl) ?_
  refine g_getR (b := 27) C hP gl_Desk_29 rfl rfl rfl d_Desk_row_1 ?_
  refine lv_iload_n hx hb d_Desk_row_4 rfl (lv_at hl 1 rfl) ?_
  obtain ⟨q5, hq5, hM⟩ := gb_some hM
  refine g_callP (As := [.int x1]) C hP (pc_Ranking_hasRow C.2.2.2.2.2.2.2.2.1 hq5) gi_Ranking_hasRow gm_Desk_188 rfl rfl (by decide) (by decide) hl.1 rfl (Nat.le_of_ble_eq_true rfl) d_Desk_row_5 ?_
  refine lv_if_ne (tgt := 21) hx hb d_Desk_row_8 (by decide) (fun hc8 => ?_) (fun hc8 => ?_)
  · replace hM := gi_f hc8 hM
    refine lv_aload_n hx hb d_Desk_row_21 rfl (lv_at hl 0 rfl) ?_
    refine g_getR (b := 27) C hP gl_Desk_29 rfl rfl rfl d_Desk_row_22 ?_
    refine g_getR (b := 35) C hP gl_Desk_193 rfl rfl rfl d_Desk_row_25 ?_
    refine lv_iload_n hx hb d_Desk_row_28 rfl (lv_at hl 1 rfl) ?_
    obtain ⟨hi29, hM⟩ := gc_some hM
    refine g_iald C hP rfl hi29 d_Desk_row_29 ?_
    refine lv_istore_n (lv' := [(3, .int (u.2.2.1 35 (gIx x1))), (0, .ref (ρ 0)), (1, .int x1), (2, .int x2)]) hx hb d_Desk_row_30 rfl hl (by decide) rfl (fun ls hl => ?_)
    refine lv_iload_n hx hb d_Desk_row_31 rfl (lv_at hl 3 rfl) ?_
    by_cases hc32_0 : x2 = (0 : Int32)
    · replace hM := gi_t hc32_0 hM
      refine g_tabIn (v := 0) (tgt := 68) hx hb d_Desk_row_32 hc32_0 (by decide) (by decide) (off := 36) (by decide) (by decide) ?_
      refine lv_aload_n hx hb d_Desk_row_68 rfl (lv_at hl 1 rfl) ?_
      refine g_getR (b := 27) C hP gl_Desk_29 rfl rfl rfl d_Desk_row_69 ?_
      refine g_getR (b := 28) C hP gl_Desk_197 rfl rfl rfl d_Desk_row_72 ?_
      refine lv_iload_n hx hb d_Desk_row_75 rfl (lv_at hl 0 rfl) ?_
      obtain ⟨hi76, hM⟩ := gc_some hM
      refine g_iald C hP rfl hi76 d_Desk_row_76 ?_
      cases hM
    replace hM := gi_f hc32_0 hM
    by_cases hc32_1 : x2 = (1 : Int32)
    · replace hM := gi_t hc32_1 hM
      refine g_tabIn (v := 1) (tgt := 78) hx hb d_Desk_row_32 hc32_1 (by decide) (by decide) (off := 46) (by decide) (by decide) ?_
      refine lv_aload_n hx hb d_Desk_row_78 rfl (lv_at hl 1 rfl) ?_
      refine g_getR (b := 27) C hP gl_Desk_29 rfl rfl rfl d_Desk_row_79 ?_
      refine g_getR (b := 29) C hP gl_Desk_200 rfl rfl rfl d_Desk_row_82 ?_
      refine lv_iload_n hx hb d_Desk_row_85 rfl (lv_at hl 0 rfl) ?_
      obtain ⟨hi86, hM⟩ := gc_some hM
      refine g_iald C hP rfl hi86 d_Desk_row_86 ?_
      cases hM
    replace hM := gi_f hc32_1 hM
    by_cases hc32_2 : x2 = (2 : Int32)
    · replace hM := gi_t hc32_2 hM
      refine g_tabIn (v := 2) (tgt := 88) hx hb d_Desk_row_32 hc32_2 (by decide) (by decide) (off := 56) (by decide) (by decide) ?_
      refine lv_aload_n hx hb d_Desk_row_88 rfl (lv_at hl 1 rfl) ?_
      refine g_getR (b := 27) C hP gl_Desk_29 rfl rfl rfl d_Desk_row_89 ?_
      refine g_getI C hP gl_Desk_203 rfl rfl d_Desk_row_92 ?_
      cases hM
    replace hM := gi_f hc32_2 hM
    by_cases hc32_3 : x2 = (3 : Int32)
    · replace hM := gi_t hc32_3 hM
      refine g_tabIn (v := 3) (tgt := 96) hx hb d_Desk_row_32 hc32_3 (by decide) (by decide) (off := 64) (by decide) (by decide) ?_
      refine lv_aload_n hx hb d_Desk_row_96 rfl (lv_at hl 1 rfl) ?_
      refine g_getR (b := 27) C hP gl_Desk_29 rfl rfl rfl d_Desk_row_97 ?_
      refine g_getR (b := 30) C hP gl_Desk_205 rfl rfl rfl d_Desk_row_100 ?_
      refine lv_iload_n hx hb d_Desk_row_103 rfl (lv_at hl 0 rfl) ?_
      obtain ⟨hi104, hM⟩ := gc_some hM
      refine g_iald C hP rfl hi104 d_Desk_row_104 ?_
      cases hM
    replace hM := gi_f hc32_3 hM
    by_cases hc32_4 : x2 = (4 : Int32)
    · replace hM := gi_t hc32_4 hM
      refine g_tabIn (v := 4) (tgt := 106) hx hb d_Desk_row_32 hc32_4 (by decide) (by decide) (off := 74) (by decide) (by decide) ?_
      refine lv_aload_n hx hb d_Desk_row_106 rfl (lv_at hl 1 rfl) ?_
      refine g_getR (b := 27) C hP gl_Desk_29 rfl rfl rfl d_Desk_row_107 ?_
      refine g_getI C hP gl_Desk_208 rfl rfl d_Desk_row_110 ?_
      cases hM
    replace hM := gi_f hc32_4 hM
    refine lv_tableOut (tgt := 114) hx hb d_Desk_row_32 (by have := gneI (k := 0) hc32_0 (by decide); have := gneI (k := 0) hc32_0 (by decide); have := gneI (k := 1) hc32_1 (by decide); have := gneI (k := 2) hc32_2 (by decide); have := gneI (k := 3) hc32_3 (by decide); have := gneI (k := 4) hc32_4 (by decide); omega) (by decide) ?_
    obtain rfl := Option.some.inj hM
    exact g_thr C X2 hfl hex gow_68_72 (by decide : (210, "what is not 0 .. 4") ∈ gStrs) hl.1 (by decide) (by decide) ⟨Nat.le_refl _, Nat.le_refl _⟩ d_Desk_row_114 d_Desk_row_117 d_Desk_row_118 d_Desk_row_120 d_Desk_row_123
  · replace hM := gi_t hc8 hM
    obtain rfl := Option.some.inj hM
    exact g_thr C X2 hfl hex gow_123_127 (by decide : (191, "no such row") ∈ gStrs) hl.1 (by decide) (by decide) ⟨Nat.le_refl _, Nat.le_refl _⟩ d_Desk_row_11 d_Desk_row_14 d_Desk_row_15 d_Desk_row_17 d_Desk_row_20
end
theorem d_Desk_print_14 : decode prog_1_method_13_code 14 = .ok (.dup, 1) := by decide +kernel
theorem d_Desk_print_15 : decode prog_1_method_13_code 15 = .ok (.ldc 191, 2) := by decide +kernel
theorem d_Desk_print_17 : decode prog_1_method_13_code 17 = .ok (.invokespecial 127, 3) := by decide +kernel
theorem d_Desk_print_20 : decode prog_1_method_13_code 20 = .ok (.athrow, 1) := by decide +kernel
theorem d_Desk_print_44 : decode prog_1_method_13_code 44 = .ok (.dup, 1) := by decide +kernel
theorem d_Desk_print_45 : decode prog_1_method_13_code 45 = .ok (.ldc 212, 2) := by decide +kernel
theorem d_Desk_print_47 : decode prog_1_method_13_code 47 = .ok (.invokespecial 72, 3) := by decide +kernel
theorem d_Desk_print_50 : decode prog_1_method_13_code 50 = .ok (.athrow, 1) := by decide +kernel
section
def E_Desk_print (x1 : Int32) (x2 : Int32) (x3 : Int32) (u : gSt) : Option Nat :=
  (P_Ranking_hasRow x1 u).bind fun q5 =>
  if q5 = (0 : Int32) then
    (some 2)
  else
    (if x2 < (0 : Int32) then
      (some 1)
    else
      (if (4 : Int32) ≤ x2 then
        (some 1)
      else
        (if x3 < (-1 : Int32) then
          (some 1)
        else
          (if x3 ≤ (40 : Int32) then
            (gc (gIn x1 (gLen 35)) <| none)
          else
            (some 1)))))
set_option maxHeartbeats 4000000 in
set_option maxRecDepth 100000 in
theorem e_Desk_print {l : Launch} {cy : Nat → ClassId} {D : va_G} {ρ : Nat → Nat} {A : Nat → Prop} (hfl : l.stackTraces = false) (hD : gD ρ A) {x1 : Int32} {x2 : Int32} {x3 : Int32} {u : gSt} {k : Nat} (hM : E_Desk_print x1 x2 x3 u = some k) : gCtT l y_Desk_print prog_1_method_13_code 5 (some .int) 6 90 cy D ρ A [.ref (ρ 0), .int x1, .int x2, .int x3] u (gEx k) := by
  refine g_metT (by decide) hD (Nat.le_of_ble_eq_true rfl) (fun p e s m below meth c ls C X2 hex hl hP => ?_)
  have hx := C.1
  have hb := C.2.1
  unfold E_Desk_print at hM
  have hl : lv_has ls 5 [(0, .ref (ρ 0)), (1, .int x1), (2, .int x2), (3, .int x3)] := hl
  refine lv_aload_n hx hb d_Desk_print_0 rfl (lv_at hl 0 rfl) ?_
  refine g_getR (b := 27) C hP gl_Desk_29 rfl rfl rfl d_Desk_print_1 ?_
  refine lv_iload_n hx hb d_Desk_print_4 rfl (lv_at hl 1 rfl) ?_
  obtain ⟨q5, hq5, hM⟩ := gb_some hM
  refine g_callP (As := [.int x1]) C hP (pc_Ranking_hasRow C.2.2.2.2.2.2.2.2.1 hq5) gi_Ranking_hasRow gm_Desk_188 rfl rfl (by decide) (by decide) hl.1 rfl (Nat.le_of_ble_eq_true rfl) d_Desk_print_5 ?_
  refine lv_if_ne (tgt := 21) hx hb d_Desk_print_8 (by decide) (fun hc8 => ?_) (fun hc8 => ?_)
  · replace hM := gi_f hc8 hM
    refine lv_iload_n hx hb d_Desk_print_21 rfl (lv_at hl 2 rfl) ?_
    refine lv_if_lt (tgt := 41) hx hb d_Desk_print_22 (by decide) (fun hc22 => ?_) (fun hc22 => ?_)
    · replace hM := gi_t hc22 hM
      obtain rfl := Option.some.inj hM
      exact g_thr C X2 hfl hex gow_68_72 (by decide : (212, "no such value, or no such number of places") ∈ gStrs) hl.1 (by decide) (by decide) ⟨Nat.le_refl _, Nat.le_refl _⟩ d_Desk_print_41 d_Desk_print_44 d_Desk_print_45 d_Desk_print_47 d_Desk_print_50
    · replace hM := gi_f hc22 hM
      refine lv_iload_n hx hb d_Desk_print_25 rfl (lv_at hl 2 rfl) ?_
      refine lv_iconst (v := (4 : Int32)) hx hb d_Desk_print_26 (by decide) ?_
      refine lv_icmp_ge (tgt := 41) hx hb d_Desk_print_27 (by decide) (fun hc27 => ?_) (fun hc27 => ?_)
      · replace hM := gi_t hc27 hM
        obtain rfl := Option.some.inj hM
        exact g_thr C X2 hfl hex gow_68_72 (by decide : (212, "no such value, or no such number of places") ∈ gStrs) hl.1 (by decide) (by decide) ⟨Nat.le_refl _, Nat.le_refl _⟩ d_Desk_print_41 d_Desk_print_44 d_Desk_print_45 d_Desk_print_47 d_Desk_print_50
      · replace hM := gi_f hc27 hM
        refine lv_iload_n hx hb d_Desk_print_30 rfl (lv_at hl 3 rfl) ?_
        refine lv_iconst (v := (-1 : Int32)) hx hb d_Desk_print_31 (by decide) ?_
        refine lv_icmp_lt (tgt := 41) hx hb d_Desk_print_32 (by decide) (fun hc32 => ?_) (fun hc32 => ?_)
        · replace hM := gi_t hc32 hM
          obtain rfl := Option.some.inj hM
          exact g_thr C X2 hfl hex gow_68_72 (by decide : (212, "no such value, or no such number of places") ∈ gStrs) hl.1 (by decide) (by decide) ⟨Nat.le_refl _, Nat.le_refl _⟩ d_Desk_print_41 d_Desk_print_44 d_Desk_print_45 d_Desk_print_47 d_Desk_print_50
        · replace hM := gi_f hc32 hM
          refine lv_iload_n hx hb d_Desk_print_35 rfl (lv_at hl 3 rfl) ?_
          refine lv_bipush (v := (40 : Int32)) hx hb d_Desk_print_36 (by decide) ?_
          refine lv_icmp_le (tgt := 51) hx hb d_Desk_print_38 (by decide) (fun hc38 => ?_) (fun hc38 => ?_)
          · replace hM := gi_t hc38 hM
            refine lv_iload_n hx hb d_Desk_print_51 rfl (lv_at hl 2 rfl) ?_
            refine lv_aload_n hx hb d_Desk_print_52 rfl (lv_at hl 0 rfl) ?_
            refine g_getR (b := 27) C hP gl_Desk_29 rfl rfl rfl d_Desk_print_53 ?_
            refine g_getR (b := 35) C hP gl_Desk_193 rfl rfl rfl d_Desk_print_56 ?_
            refine lv_iload_n hx hb d_Desk_print_59 rfl (lv_at hl 1 rfl) ?_
            obtain ⟨hi60, hM⟩ := gc_some hM
            refine g_iald C hP rfl hi60 d_Desk_print_60 ?_
            cases hM
          · replace hM := gi_f hc38 hM
            obtain rfl := Option.some.inj hM
            exact g_thr C X2 hfl hex gow_68_72 (by decide : (212, "no such value, or no such number of places") ∈ gStrs) hl.1 (by decide) (by decide) ⟨Nat.le_refl _, Nat.le_refl _⟩ d_Desk_print_41 d_Desk_print_44 d_Desk_print_45 d_Desk_print_47 d_Desk_print_50
  · replace hM := gi_t hc8 hM
    obtain rfl := Option.some.inj hM
    exact g_thr C X2 hfl hex gow_123_127 (by decide : (191, "no such row") ∈ gStrs) hl.1 (by decide) (by decide) ⟨Nat.le_refl _, Nat.le_refl _⟩ d_Desk_print_11 d_Desk_print_14 d_Desk_print_15 d_Desk_print_17 d_Desk_print_20
end
