/-! printed by wip/whole/gen/gen.py -/
section
variable {p : Program} {l : Launch} {e : Env} {R : Room} {s : State} {m : MethodId} {args : Array Value} {below : List Frame} {meth : Method} {c : Code} {Q : State → Prop} {H0 : Heap} {cells slots : Nat} {cy : Nat → ClassId} {D : va_G} {ρ : Nat → Nat} {A : Nat → Prop}
def y_Board_genes : MethodName := ⟨"TermDesk$Board", "genes", "()I"⟩
theorem gi_Board_genes : gMi y_Board_genes prog_3_method_2_code 1 (some .int) 0 3 := ⟨(gWs_at 738 (by decide +kernel) (by decide +kernel)), (gWs_at 737 (by decide +kernel) (by decide +kernel)), (gWs_at 32 (by decide +kernel) (by decide +kernel)), (gWs_at 120 (by decide +kernel) (by decide +kernel)), ⟨by decide +kernel, by decide +kernel, by decide +kernel⟩, _, _, rfl⟩
theorem gm_Desk_90 : gMk "TermDesk" 90 y_Board_genes := Or.inr ⟨"TermDesk", gNs_at 735 (by decide +kernel) (by decide +kernel)⟩
theorem gm_Board_61 : gMk "TermDesk$Board" 61 y_Board_genes := Or.inl (gWs_at 828 (by decide +kernel) (by decide +kernel))
theorem gm_Ranking_92 : gMk "TermDesk$Ranking" 92 y_Board_genes := Or.inr ⟨"TermDesk", gNs_at 869 (by decide +kernel) (by decide +kernel)⟩
theorem d_Board_genes_0 : decode prog_3_method_2_code 0 = .ok (.aload_n 0, 1) := by decide +kernel
theorem d_Board_genes_1 : decode prog_3_method_2_code 1 = .ok (.getfield 20, 3) := by decide +kernel
theorem d_Board_genes_4 : decode prog_3_method_2_code 4 = .ok (.getfield 58, 3) := by decide +kernel
theorem d_Board_genes_7 : decode prog_3_method_2_code 7 = .ok (.ireturn, 1) := by decide +kernel
noncomputable def M_Board_genes (u : gSt) : Option ((Int32 × gSt)) :=
  some (u.1 9 3, u)
set_option maxHeartbeats 4000000 in
set_option maxRecDepth 100000 in
theorem t_Board_genes (C : gX "TermDesk$Board" prog_3_method_2_code 1 (some .int) 0 0 R cells slots cy D ρ A p s m args meth c) {u : gSt} {z : (Int32 × gSt)} (hM : M_Board_genes u = some z) (hR : gRtI p l e R s m args below meth c Q H0 cells slots cy D ρ A prog_3_method_2_code z.1 z.2) : gAt p l e R s m args below meth c Q H0 cells slots cy D ρ A 1 0 [(0, .ref (ρ 4))] [] u := by
  intro ls H locs hl hP hS
  have hx := C.1
  have hb := C.2.1
  unfold M_Board_genes at hM
  refine lv_aload_n hx hb d_Board_genes_0 rfl (lv_at hl 0 rfl) ?_
  refine g_getR (b := 9) C hP gl_Board_20 rfl rfl rfl d_Board_genes_1 ?_
  refine g_getI C hP gl_Board_58 rfl rfl d_Board_genes_4 ?_
  obtain rfl := Option.some.inj hM
  exact hR _ ls H locs d_Board_genes_7 hP hS
theorem c_Board_genes {l : Launch} {cy : Nat → ClassId} {D : va_G} {ρ : Nat → Nat} {A : Nat → Prop} (hD : gD ρ A) {u : gSt} {z : (Int32 × gSt)} (hM : M_Board_genes u = some z) : gCtI l y_Board_genes prog_3_method_2_code 1 (some .int) 0 0 cy D ρ A [.ref (ρ 4)] u z.1 z.2 :=
  g_met (by decide) hD (Nat.le_of_ble_eq_true rfl) (fun p e s m below meth c ls X hl hP => t_Board_genes X hM (fun pc ls H locs hd hP hS => g_iret X hP hS hd) ls _ [] hl hP va_S.rf)
end
section
variable {p : Program} {l : Launch} {e : Env} {R : Room} {s : State} {m : MethodId} {args : Array Value} {below : List Frame} {meth : Method} {c : Code} {Q : State → Prop} {H0 : Heap} {cells slots : Nat} {cy : Nat → ClassId} {D : va_G} {ρ : Nat → Nat} {A : Nat → Prop}
def y_Board_studied : MethodName := ⟨"TermDesk$Board", "studied", "()I"⟩
theorem gi_Board_studied : gMi y_Board_studied prog_3_method_6_code 1 (some .int) 0 3 := ⟨(gWs_at 742 (by decide +kernel) (by decide +kernel)), (gWs_at 741 (by decide +kernel) (by decide +kernel)), (gWs_at 33 (by decide +kernel) (by decide +kernel)), (gWs_at 120 (by decide +kernel) (by decide +kernel)), ⟨by decide +kernel, by decide +kernel, by decide +kernel⟩, _, _, rfl⟩
theorem gm_Desk_93 : gMk "TermDesk" 93 y_Board_studied := Or.inr ⟨"TermDesk", gNs_at 739 (by decide +kernel) (by decide +kernel)⟩
theorem gm_Ranking_97 : gMk "TermDesk$Ranking" 97 y_Board_studied := Or.inr ⟨"TermDesk", gNs_at 870 (by decide +kernel) (by decide +kernel)⟩
theorem d_Board_studied_0 : decode prog_3_method_6_code 0 = .ok (.aload_n 0, 1) := by decide +kernel
theorem d_Board_studied_1 : decode prog_3_method_6_code 1 = .ok (.getfield 42, 3) := by decide +kernel
theorem d_Board_studied_4 : decode prog_3_method_6_code 4 = .ok (.iconst 0, 1) := by decide +kernel
theorem d_Board_studied_5 : decode prog_3_method_6_code 5 = .ok (.invokevirtual 69, 3) := by decide +kernel
theorem d_Board_studied_8 : decode prog_3_method_6_code 8 = .ok (.ireturn, 1) := by decide +kernel
noncomputable def M_Board_studied (u : gSt) : Option ((Int32 × gSt)) :=
  (M_Grid_count 23 (0 : Int32) u).bind fun q5 =>
  some (q5.1, q5.2)
set_option maxHeartbeats 4000000 in
set_option maxRecDepth 100000 in
theorem t_Board_studied (C : gX "TermDesk$Board" prog_3_method_6_code 1 (some .int) 3 67 R cells slots cy D ρ A p s m args meth c) {u : gSt} {z : (Int32 × gSt)} (hM : M_Board_studied u = some z) (hR : gRtI p l e R s m args below meth c Q H0 cells slots cy D ρ A prog_3_method_6_code z.1 z.2) : gAt p l e R s m args below meth c Q H0 cells slots cy D ρ A 1 0 [(0, .ref (ρ 4))] [] u := by
  intro ls H locs hl hP hS
  have hx := C.1
  have hb := C.2.1
  unfold M_Board_studied at hM
  refine lv_aload_n hx hb d_Board_studied_0 rfl (lv_at hl 0 rfl) ?_
  refine g_getR (b := 23) C hP gl_Board_42 rfl rfl rfl d_Board_studied_1 ?_
  refine lv_iconst (v := (0 : Int32)) hx hb d_Board_studied_4 (by decide) ?_
  obtain ⟨q5, hq5, hM⟩ := gb_some hM
  refine g_backI (g_runV (As := [.int (0 : Int32)]) C hP (c_Grid_count C.2.2.2.2.2.2.2.2.1 hq5) gi_Grid_count gm_Board_69 rfl rfl (by decide) (by decide) hl.1 rfl (Nat.le_of_ble_eq_true rfl) d_Board_studied_5) hS (fun H locs hP hS => ?_)
  obtain rfl := Option.some.inj hM
  exact hR _ ls H locs d_Board_studied_8 hP hS
theorem c_Board_studied {l : Launch} {cy : Nat → ClassId} {D : va_G} {ρ : Nat → Nat} {A : Nat → Prop} (hD : gD ρ A) {u : gSt} {z : (Int32 × gSt)} (hM : M_Board_studied u = some z) : gCtI l y_Board_studied prog_3_method_6_code 1 (some .int) 3 67 cy D ρ A [.ref (ρ 4)] u z.1 z.2 :=
  g_met (by decide) hD (Nat.le_of_ble_eq_true rfl) (fun p e s m below meth c ls X hl hP => t_Board_studied X hM (fun pc ls H locs hd hP hS => g_iret X hP hS hd) ls _ [] hl hP va_S.rf)
end
section
variable {p : Program} {l : Launch} {e : Env} {R : Room} {s : State} {m : MethodId} {args : Array Value} {below : List Frame} {meth : Method} {c : Code} {Q : State → Prop} {H0 : Heap} {cells slots : Nat} {cy : Nat → ClassId} {D : va_G} {ρ : Nat → Nat} {A : Nat → Prop}
def y_Board_isOld : MethodName := ⟨"TermDesk$Board", "isOld", "(I)Z"⟩
theorem gi_Board_isOld : gMi y_Board_isOld prog_3_method_5_code 2 (some .boolean) 1 3 := ⟨(gWs_at 536 (by decide +kernel) (by decide +kernel)), (gWs_at 535 (by decide +kernel) (by decide +kernel)), (gWs_at 15 (by decide +kernel) (by decide +kernel)), (gWs_at 120 (by decide +kernel) (by decide +kernel)), ⟨by decide +kernel, by decide +kernel, by decide +kernel⟩, _, _, rfl⟩
theorem gm_Clerk_136 : gMk "TermDesk$Clerk" 136 y_Board_isOld := Or.inr ⟨"TermDesk", gNs_at 533 (by decide +kernel) (by decide +kernel)⟩
theorem gm_Board_76 : gMk "TermDesk$Board" 76 y_Board_isOld := Or.inl (gWs_at 765 (by decide +kernel) (by decide +kernel))
theorem gm_Desk_149 : gMk "TermDesk" 149 y_Board_isOld := Or.inr ⟨"TermDesk", gNs_at 807 (by decide +kernel) (by decide +kernel)⟩
theorem d_Board_isOld_0 : decode prog_3_method_5_code 0 = .ok (.aload_n 0, 1) := by decide +kernel
theorem d_Board_isOld_1 : decode prog_3_method_5_code 1 = .ok (.getfield 39, 3) := by decide +kernel
theorem d_Board_isOld_4 : decode prog_3_method_5_code 4 = .ok (.iconst 0, 1) := by decide +kernel
theorem d_Board_isOld_5 : decode prog_3_method_5_code 5 = .ok (.iload_n 1, 1) := by decide +kernel
theorem d_Board_isOld_6 : decode prog_3_method_5_code 6 = .ok (.invokevirtual 65, 3) := by decide +kernel
theorem d_Board_isOld_9 : decode prog_3_method_5_code 9 = .ok (.ireturn, 1) := by decide +kernel
noncomputable def M_Board_isOld (x1 : Int32) (u : gSt) : Option ((Int32 × gSt)) :=
  (M_Grid_has 21 (0 : Int32) x1 u).bind fun q6 =>
  gc (gZ q6.1) <| some (q6.1, q6.2)
set_option maxHeartbeats 4000000 in
set_option maxRecDepth 100000 in
theorem t_Board_isOld (C : gX "TermDesk$Board" prog_3_method_5_code 2 (some .boolean) 1 22 R cells slots cy D ρ A p s m args meth c) {x1 : Int32} {u : gSt} {z : (Int32 × gSt)} (hM : M_Board_isOld x1 u = some z) (hR : gRtZ p l e R s m args below meth c Q H0 cells slots cy D ρ A prog_3_method_5_code z.1 z.2) : gAt p l e R s m args below meth c Q H0 cells slots cy D ρ A 2 0 [(0, .ref (ρ 4)), (1, .int x1)] [] u := by
  intro ls H locs hl hP hS
  have hx := C.1
  have hb := C.2.1
  unfold M_Board_isOld at hM
  refine lv_aload_n hx hb d_Board_isOld_0 rfl (lv_at hl 0 rfl) ?_
  refine g_getR (b := 21) C hP gl_Board_39 rfl rfl rfl d_Board_isOld_1 ?_
  refine lv_iconst (v := (0 : Int32)) hx hb d_Board_isOld_4 (by decide) ?_
  refine lv_iload_n hx hb d_Board_isOld_5 rfl (lv_at hl 1 rfl) ?_
  obtain ⟨q6, hq6, hM⟩ := gb_some hM
  refine g_backI (g_runV (As := [.int (0 : Int32), .int x1]) C hP (c_Grid_has C.2.2.2.2.2.2.2.2.1 hq6) gi_Grid_has gm_Board_65 rfl rfl (by decide) (by decide) hl.1 rfl (Nat.le_of_ble_eq_true rfl) d_Board_isOld_6) hS (fun H locs hP hS => ?_)
  obtain ⟨hz9, hM⟩ := gc_some hM
  obtain rfl := Option.some.inj hM
  exact hR _ ls H locs hz9 d_Board_isOld_9 hP hS
theorem c_Board_isOld {l : Launch} {cy : Nat → ClassId} {D : va_G} {ρ : Nat → Nat} {A : Nat → Prop} (hD : gD ρ A) {x1 : Int32} {u : gSt} {z : (Int32 × gSt)} (hM : M_Board_isOld x1 u = some z) : gCtI l y_Board_isOld prog_3_method_5_code 2 (some .boolean) 1 22 cy D ρ A [.ref (ρ 4), .int x1] u z.1 z.2 :=
  g_met (by decide) hD (Nat.le_of_ble_eq_true rfl) (fun p e s m below meth c ls X hl hP => t_Board_isOld X hM (fun pc ls H locs hz hd hP hS => g_zret X hP hS hz hd) ls _ [] hl hP va_S.rf)
end
section
variable {p : Program} {l : Launch} {e : Env} {R : Room} {s : State} {m : MethodId} {args : Array Value} {below : List Frame} {meth : Method} {c : Code} {Q : State → Prop} {H0 : Heap} {cells slots : Nat} {cy : Nat → ClassId} {D : va_G} {ρ : Nat → Nat} {A : Nat → Prop}
def y_Board_studiedAt : MethodName := ⟨"TermDesk$Board", "studiedAt", "(I)I"⟩
theorem gi_Board_studiedAt : gMi y_Board_studiedAt prog_3_method_8_code 2 (some .int) 1 3 := ⟨(gWs_at 769 (by decide +kernel) (by decide +kernel)), (gWs_at 768 (by decide +kernel) (by decide +kernel)), (gWs_at 38 (by decide +kernel) (by decide +kernel)), (gWs_at 120 (by decide +kernel) (by decide +kernel)), ⟨by decide +kernel, by decide +kernel, by decide +kernel⟩, _, _, rfl⟩
theorem gm_Board_80 : gMk "TermDesk$Board" 80 y_Board_studiedAt := Or.inl (gWs_at 766 (by decide +kernel) (by decide +kernel))
theorem gm_Desk_146 : gMk "TermDesk" 146 y_Board_studiedAt := Or.inr ⟨"TermDesk", gNs_at 806 (by decide +kernel) (by decide +kernel)⟩
theorem gm_Ranking_106 : gMk "TermDesk$Ranking" 106 y_Board_studiedAt := Or.inr ⟨"TermDesk", gNs_at 872 (by decide +kernel) (by decide +kernel)⟩
theorem d_Board_studiedAt_0 : decode prog_3_method_8_code 0 = .ok (.aload_n 0, 1) := by decide +kernel
theorem d_Board_studiedAt_1 : decode prog_3_method_8_code 1 = .ok (.getfield 36, 3) := by decide +kernel
theorem d_Board_studiedAt_4 : decode prog_3_method_8_code 4 = .ok (.iload_n 1, 1) := by decide +kernel
theorem d_Board_studiedAt_5 : decode prog_3_method_8_code 5 = .ok (.aload_n 0, 1) := by decide +kernel
theorem d_Board_studiedAt_6 : decode prog_3_method_8_code 6 = .ok (.getfield 42, 3) := by decide +kernel
theorem d_Board_studiedAt_9 : decode prog_3_method_8_code 9 = .ok (.iconst 0, 1) := by decide +kernel
theorem d_Board_studiedAt_10 : decode prog_3_method_8_code 10 = .ok (.invokevirtual 72, 3) := by decide +kernel
theorem d_Board_studiedAt_13 : decode prog_3_method_8_code 13 = .ok (.ireturn, 1) := by decide +kernel
noncomputable def M_Board_studiedAt (x1 : Int32) (u : gSt) : Option ((Int32 × gSt)) :=
  (M_Grid_countShared 19 x1 23 (0 : Int32) u).bind fun q10 =>
  some (q10.1, q10.2)
set_option maxHeartbeats 4000000 in
set_option maxRecDepth 100000 in
theorem t_Board_studiedAt (C : gX "TermDesk$Board" prog_3_method_8_code 2 (some .int) 2 46 R cells slots cy D ρ A p s m args meth c) {x1 : Int32} {u : gSt} {z : (Int32 × gSt)} (hM : M_Board_studiedAt x1 u = some z) (hR : gRtI p l e R s m args below meth c Q H0 cells slots cy D ρ A prog_3_method_8_code z.1 z.2) : gAt p l e R s m args below meth c Q H0 cells slots cy D ρ A 2 0 [(0, .ref (ρ 4)), (1, .int x1)] [] u := by
  intro ls H locs hl hP hS
  have hx := C.1
  have hb := C.2.1
  unfold M_Board_studiedAt at hM
  refine lv_aload_n hx hb d_Board_studiedAt_0 rfl (lv_at hl 0 rfl) ?_
  refine g_getR (b := 19) C hP gl_Board_36 rfl rfl rfl d_Board_studiedAt_1 ?_
  refine lv_iload_n hx hb d_Board_studiedAt_4 rfl (lv_at hl 1 rfl) ?_
  refine lv_aload_n hx hb d_Board_studiedAt_5 rfl (lv_at hl 0 rfl) ?_
  refine g_getR (b := 23) C hP gl_Board_42 rfl rfl rfl d_Board_studiedAt_6 ?_
  refine lv_iconst (v := (0 : Int32)) hx hb d_Board_studiedAt_9 (by decide) ?_
  obtain ⟨q10, hq10, hM⟩ := gb_some hM
  refine g_backI (g_runV (As := [.int x1, .ref (ρ 23), .int (0 : Int32)]) C hP (c_Grid_countShared C.2.2.2.2.2.2.2.2.1 hq10) gi_Grid_countShared gm_Board_72 rfl rfl (by decide) (by decide) hl.1 rfl (Nat.le_of_ble_eq_true rfl) d_Board_studiedAt_10) hS (fun H locs hP hS => ?_)
  obtain rfl := Option.some.inj hM
  exact hR _ ls H locs d_Board_studiedAt_13 hP hS
theorem c_Board_studiedAt {l : Launch} {cy : Nat → ClassId} {D : va_G} {ρ : Nat → Nat} {A : Nat → Prop} (hD : gD ρ A) {x1 : Int32} {u : gSt} {z : (Int32 × gSt)} (hM : M_Board_studiedAt x1 u = some z) : gCtI l y_Board_studiedAt prog_3_method_8_code 2 (some .int) 2 46 cy D ρ A [.ref (ρ 4), .int x1] u z.1 z.2 :=
  g_met (by decide) hD (Nat.le_of_ble_eq_true rfl) (fun p e s m below meth c ls X hl hP => t_Board_studiedAt X hM (fun pc ls H locs hd hP hS => g_iret X hP hS hd) ls _ [] hl hP va_S.rf)
end
section
variable {p : Program} {l : Launch} {e : Env} {R : Room} {s : State} {m : MethodId} {args : Array Value} {below : List Frame} {meth : Method} {c : Code} {Q : State → Prop} {H0 : Heap} {cells slots : Nat} {cy : Nat → ClassId} {D : va_G} {ρ : Nat → Nat} {A : Nat → Prop}
def y_Board_isCandidate : MethodName := ⟨"TermDesk$Board", "isCandidate", "(I)Z"⟩
theorem gi_Board_isCandidate : gMi y_Board_isCandidate prog_3_method_9_code 2 (some .boolean) 1 3 := ⟨(gWs_at 764 (by decide +kernel) (by decide +kernel)), (gWs_at 763 (by decide +kernel) (by decide +kernel)), (gWs_at 37 (by decide +kernel) (by decide +kernel)), (gWs_at 120 (by decide +kernel) (by decide +kernel)), ⟨by decide +kernel, by decide +kernel, by decide +kernel⟩, _, _, rfl⟩
theorem gm_Board_83 : gMk "TermDesk$Board" 83 y_Board_isCandidate := Or.inl (gWs_at 761 (by decide +kernel) (by decide +kernel))
theorem gm_Ranking_102 : gMk "TermDesk$Ranking" 102 y_Board_isCandidate := Or.inr ⟨"TermDesk", gNs_at 871 (by decide +kernel) (by decide +kernel)⟩
theorem d_Board_isCandidate_0 : decode prog_3_method_9_code 0 = .ok (.aload_n 0, 1) := by decide +kernel
theorem d_Board_isCandidate_1 : decode prog_3_method_9_code 1 = .ok (.iload_n 1, 1) := by decide +kernel
theorem d_Board_isCandidate_2 : decode prog_3_method_9_code 2 = .ok (.invokevirtual 76, 3) := by decide +kernel
theorem d_Board_isCandidate_5 : decode prog_3_method_9_code 5 = .ok (.ifCond .ne 15, 3) := by decide +kernel
theorem d_Board_isCandidate_8 : decode prog_3_method_9_code 8 = .ok (.aload_n 0, 1) := by decide +kernel
theorem d_Board_isCandidate_9 : decode prog_3_method_9_code 9 = .ok (.iload_n 1, 1) := by decide +kernel
theorem d_Board_isCandidate_10 : decode prog_3_method_9_code 10 = .ok (.invokevirtual 80, 3) := by decide +kernel
theorem d_Board_isCandidate_13 : decode prog_3_method_9_code 13 = .ok (.ifCond .le 7, 3) := by decide +kernel
theorem d_Board_isCandidate_16 : decode prog_3_method_9_code 16 = .ok (.iconst 1, 1) := by decide +kernel
theorem d_Board_isCandidate_17 : decode prog_3_method_9_code 17 = .ok (.goto 4, 3) := by decide +kernel
theorem d_Board_isCandidate_20 : decode prog_3_method_9_code 20 = .ok (.iconst 0, 1) := by decide +kernel
theorem d_Board_isCandidate_21 : decode prog_3_method_9_code 21 = .ok (.ireturn, 1) := by decide +kernel
noncomputable def M_Board_isCandidate_b21 (s0 : Int32) (u : gSt) : Option ((Int32 × gSt)) :=
  gc (gZ s0) <| some (s0, u)
set_option maxHeartbeats 4000000 in
set_option maxRecDepth 100000 in
theorem t_Board_isCandidate_b21 (C : gX "TermDesk$Board" prog_3_method_9_code 2 (some .boolean) 3 67 R cells slots cy D ρ A p s m args meth c) {s0 : Int32} {u : gSt} {z : (Int32 × gSt)} (hM : M_Board_isCandidate_b21 s0 u = some z) (hR : gRtZ p l e R s m args below meth c Q H0 cells slots cy D ρ A prog_3_method_9_code z.1 z.2) : gAt p l e R s m args below meth c Q H0 cells slots cy D ρ A 2 21 [] [.int s0] u := by
  intro ls H locs hl hP hS
  have hx := C.1
  have hb := C.2.1
  unfold M_Board_isCandidate_b21 at hM
  obtain ⟨hz21, hM⟩ := gc_some hM
  obtain rfl := Option.some.inj hM
  exact hR _ ls H locs hz21 d_Board_isCandidate_21 hP hS
noncomputable def M_Board_isCandidate_b20 (u : gSt) : Option ((Int32 × gSt)) :=
  M_Board_isCandidate_b21 (0 : Int32) u
set_option maxHeartbeats 4000000 in
set_option maxRecDepth 100000 in
theorem t_Board_isCandidate_b20 (C : gX "TermDesk$Board" prog_3_method_9_code 2 (some .boolean) 3 67 R cells slots cy D ρ A p s m args meth c) {u : gSt} {z : (Int32 × gSt)} (hM : M_Board_isCandidate_b20 u = some z) (hR : gRtZ p l e R s m args below meth c Q H0 cells slots cy D ρ A prog_3_method_9_code z.1 z.2) : gAt p l e R s m args below meth c Q H0 cells slots cy D ρ A 2 20 [] [] u := by
  intro ls H locs hl hP hS
  have hx := C.1
  have hb := C.2.1
  unfold M_Board_isCandidate_b20 at hM
  refine lv_iconst (v := (0 : Int32)) hx hb d_Board_isCandidate_20 (by decide) ?_
  exact t_Board_isCandidate_b21 C hM hR ls H locs (lv_sub hl [] rfl) hP hS
noncomputable def M_Board_isCandidate (x1 : Int32) (u : gSt) : Option ((Int32 × gSt)) :=
  (M_Board_isOld x1 u).bind fun q2 =>
  if q2.1 = (0 : Int32) then
    ((M_Board_studiedAt x1 q2.2).bind fun q10 =>
    if q10.1 ≤ (0 : Int32) then
      (M_Board_isCandidate_b20 q10.2)
    else
      (M_Board_isCandidate_b21 (1 : Int32) q10.2))
  else
    (M_Board_isCandidate_b20 q2.2)
set_option maxHeartbeats 4000000 in
set_option maxRecDepth 100000 in
theorem t_Board_isCandidate (C : gX "TermDesk$Board" prog_3_method_9_code 2 (some .boolean) 3 67 R cells slots cy D ρ A p s m args meth c) {x1 : Int32} {u : gSt} {z : (Int32 × gSt)} (hM : M_Board_isCandidate x1 u = some z) (hR : gRtZ p l e R s m args below meth c Q H0 cells slots cy D ρ A prog_3_method_9_code z.1 z.2) : gAt p l e R s m args below meth c Q H0 cells slots cy D ρ A 2 0 [(0, .ref (ρ 4)), (1, .int x1)] [] u := by
  intro ls H locs hl hP hS
  have hx := C.1
  have hb := C.2.1
  unfold M_Board_isCandidate at hM
  refine lv_aload_n hx hb d_Board_isCandidate_0 rfl (lv_at hl 0 rfl) ?_
  refine lv_iload_n hx hb d_Board_isCandidate_1 rfl (lv_at hl 1 rfl) ?_
  obtain ⟨q2, hq2, hM⟩ := gb_some hM
  refine g_backI (g_runV (As := [.int x1]) C hP (c_Board_isOld C.2.2.2.2.2.2.2.2.1 hq2) gi_Board_isOld gm_Board_76 rfl rfl (by decide) (by decide) hl.1 rfl (Nat.le_of_ble_eq_true rfl) d_Board_isCandidate_2) hS (fun H locs hP hS => ?_)
  refine lv_if_ne (tgt := 20) hx hb d_Board_isCandidate_5 (by decide) (fun hc5 => ?_) (fun hc5 => ?_)
  · replace hM := gi_f hc5 hM
    exact t_Board_isCandidate_b20 C hM hR ls H locs (lv_sub hl [] rfl) hP hS
  · replace hM := gi_t hc5 hM
    refine lv_aload_n hx hb d_Board_isCandidate_8 rfl (lv_at hl 0 rfl) ?_
    refine lv_iload_n hx hb d_Board_isCandidate_9 rfl (lv_at hl 1 rfl) ?_
    obtain ⟨q10, hq10, hM⟩ := gb_some hM
    refine g_backI (g_runV (As := [.int x1]) C hP (c_Board_studiedAt C.2.2.2.2.2.2.2.2.1 hq10) gi_Board_studiedAt gm_Board_80 rfl rfl (by decide) (by decide) hl.1 rfl (Nat.le_of_ble_eq_true rfl) d_Board_isCandidate_10) hS (fun H locs hP hS => ?_)
    refine lv_if_le (tgt := 20) hx hb d_Board_isCandidate_13 (by decide) (fun hc13 => ?_) (fun hc13 => ?_)
    · replace hM := gi_t hc13 hM
      exact t_Board_isCandidate_b20 C hM hR ls H locs (lv_sub hl [] rfl) hP hS
    · replace hM := gi_f hc13 hM
      refine lv_iconst (v := (1 : Int32)) hx hb d_Board_isCandidate_16 (by decide) ?_
      refine lv_goto (tgt := 21) hx hb d_Board_isCandidate_17 (by decide) ?_
      exact t_Board_isCandidate_b21 C hM hR ls H locs (lv_sub hl [] rfl) hP hS
theorem c_Board_isCandidate {l : Launch} {cy : Nat → ClassId} {D : va_G} {ρ : Nat → Nat} {A : Nat → Prop} (hD : gD ρ A) {x1 : Int32} {u : gSt} {z : (Int32 × gSt)} (hM : M_Board_isCandidate x1 u = some z) : gCtI l y_Board_isCandidate prog_3_method_9_code 2 (some .boolean) 3 67 cy D ρ A [.ref (ρ 4), .int x1] u z.1 z.2 :=
  g_met (by decide) hD (Nat.le_of_ble_eq_true rfl) (fun p e s m below meth c ls X hl hP => t_Board_isCandidate X hM (fun pc ls H locs hz hd hP hS => g_zret X hP hS hz hd) ls _ [] hl hP va_S.rf)
end
section
variable {p : Program} {l : Launch} {e : Env} {R : Room} {s : State} {m : MethodId} {args : Array Value} {below : List Frame} {meth : Method} {c : Code} {Q : State → Prop} {H0 : Heap} {cells slots : Nat} {cy : Nat → ClassId} {D : va_G} {ρ : Nat → Nat} {A : Nat → Prop}
def y_Board_candidates : MethodName := ⟨"TermDesk$Board", "candidates", "()I"⟩
theorem gi_Board_candidates : gMi y_Board_candidates prog_3_method_10_code 3 (some .int) 0 3 := ⟨(gWs_at 760 (by decide +kernel) (by decide +kernel)), (gWs_at 759 (by decide +kernel) (by decide +kernel)), (gWs_at 36 (by decide +kernel) (by decide +kernel)), (gWs_at 120 (by decide +kernel) (by decide +kernel)), ⟨by decide +kernel, by decide +kernel, by decide +kernel⟩, _, _, rfl⟩
theorem gm_Desk_96 : gMk "TermDesk" 96 y_Board_candidates := Or.inr ⟨"TermDesk", gNs_at 757 (by decide +kernel) (by decide +kernel)⟩
theorem d_Board_candidates_0 : decode prog_3_method_10_code 0 = .ok (.iconst 0, 1) := by decide +kernel
theorem d_Board_candidates_1 : decode prog_3_method_10_code 1 = .ok (.istore_n 1, 1) := by decide +kernel
theorem d_Board_candidates_2 : decode prog_3_method_10_code 2 = .ok (.iconst 0, 1) := by decide +kernel
theorem d_Board_candidates_3 : decode prog_3_method_10_code 3 = .ok (.istore_n 2, 1) := by decide +kernel
theorem d_Board_candidates_4 : decode prog_3_method_10_code 4 = .ok (.iload_n 2, 1) := by decide +kernel
theorem d_Board_candidates_5 : decode prog_3_method_10_code 5 = .ok (.aload_n 0, 1) := by decide +kernel
theorem d_Board_candidates_6 : decode prog_3_method_10_code 6 = .ok (.getfield 48, 3) := by decide +kernel
theorem d_Board_candidates_9 : decode prog_3_method_10_code 9 = .ok (.if_icmp .ge 20, 3) := by decide +kernel
theorem d_Board_candidates_12 : decode prog_3_method_10_code 12 = .ok (.aload_n 0, 1) := by decide +kernel
theorem d_Board_candidates_13 : decode prog_3_method_10_code 13 = .ok (.iload_n 2, 1) := by decide +kernel
theorem d_Board_candidates_14 : decode prog_3_method_10_code 14 = .ok (.invokevirtual 83, 3) := by decide +kernel
theorem d_Board_candidates_17 : decode prog_3_method_10_code 17 = .ok (.ifCond .eq 6, 3) := by decide +kernel
theorem d_Board_candidates_20 : decode prog_3_method_10_code 20 = .ok (.iinc 1 1, 3) := by decide +kernel
theorem d_Board_candidates_23 : decode prog_3_method_10_code 23 = .ok (.iinc 2 1, 3) := by decide +kernel
theorem d_Board_candidates_26 : decode prog_3_method_10_code 26 = .ok (.goto (-22), 3) := by decide +kernel
theorem d_Board_candidates_29 : decode prog_3_method_10_code 29 = .ok (.iload_n 1, 1) := by decide +kernel
theorem d_Board_candidates_30 : decode prog_3_method_10_code 30 = .ok (.ireturn, 1) := by decide +kernel
noncomputable def M_Board_candidates_b23 (x1 : Int32) (x2 : Int32) (u : gSt) : Option ((Int32 × Int32 × gSt) ⊕ ((Int32 × gSt))) :=
  some (.inl (x1, x2 + (1 : Int32), u))
set_option maxHeartbeats 4000000 in
set_option maxRecDepth 100000 in
theorem t_Board_candidates_b23 (C : gX "TermDesk$Board" prog_3_method_10_code 3 (some .int) 4 88 R cells slots cy D ρ A p s m args meth c) {x1 : Int32} {x2 : Int32} {u : gSt} {z : (Int32 × Int32 × gSt) ⊕ ((Int32 × gSt))} (hM : M_Board_candidates_b23 x1 x2 u = some z) (hN : ∀ x1' x2' u', z = .inl (x1', x2', u') → gAt p l e R s m args below meth c Q H0 cells slots cy D ρ A 3 4 [(0, .ref (ρ 4)), (1, .int (x1')), (2, .int (x2'))] [] (u')) (hE0 : ∀ x1' u', z = .inr (x1', u') → gAt p l e R s m args below meth c Q H0 cells slots cy D ρ A 3 29 [(1, .int (x1'))] [] (u')) : gAt p l e R s m args below meth c Q H0 cells slots cy D ρ A 3 23 [(0, .ref (ρ 4)), (1, .int x1), (2, .int x2)] [] u := by
  intro ls H locs hl hP hS
  have hx := C.1
  have hb := C.2.1
  unfold M_Board_candidates_b23 at hM
  refine lv_iinc (k := 2) (v := x2 + (1 : Int32)) (lv' := [(2, .int (x2 + (1 : Int32))), (0, .ref (ρ 4)), (1, .int x1)]) hx hb d_Board_candidates_23 hl rfl (congrArg (fun z => x2 + z) (by decide)) (by decide) rfl (fun ls hl => ?_)
  refine lv_goto (tgt := 4) hx hb d_Board_candidates_26 (by decide) ?_
  exact hN _ _ _ (Option.some.inj hM).symm ls H locs (lv_sub hl [1, 2, 0] rfl) hP hS
noncomputable def M_Board_candidates_b4 (x1 : Int32) (x2 : Int32) (u : gSt) : Option ((Int32 × Int32 × gSt) ⊕ ((Int32 × gSt))) :=
  if (u.1 4 9) ≤ x2 then
    (some (.inr (x1, u)))
  else
    ((M_Board_isCandidate x2 u).bind fun q14 =>
    if q14.1 = (0 : Int32) then
      (M_Board_candidates_b23 x1 x2 q14.2)
    else
      (M_Board_candidates_b23 (x1 + (1 : Int32)) x2 q14.2))
set_option maxHeartbeats 4000000 in
set_option maxRecDepth 100000 in
theorem t_Board_candidates_b4 (C : gX "TermDesk$Board" prog_3_method_10_code 3 (some .int) 4 88 R cells slots cy D ρ A p s m args meth c) {x1 : Int32} {x2 : Int32} {u : gSt} {z : (Int32 × Int32 × gSt) ⊕ ((Int32 × gSt))} (hM : M_Board_candidates_b4 x1 x2 u = some z) (hN : ∀ x1' x2' u', z = .inl (x1', x2', u') → gAt p l e R s m args below meth c Q H0 cells slots cy D ρ A 3 4 [(0, .ref (ρ 4)), (1, .int (x1')), (2, .int (x2'))] [] (u')) (hE0 : ∀ x1' u', z = .inr (x1', u') → gAt p l e R s m args below meth c Q H0 cells slots cy D ρ A 3 29 [(1, .int (x1'))] [] (u')) : gAt p l e R s m args below meth c Q H0 cells slots cy D ρ A 3 4 [(0, .ref (ρ 4)), (1, .int x1), (2, .int x2)] [] u := by
  intro ls H locs hl hP hS
  have hx := C.1
  have hb := C.2.1
  unfold M_Board_candidates_b4 at hM
  refine lv_iload_n hx hb d_Board_candidates_4 rfl (lv_at hl 2 rfl) ?_
  refine lv_aload_n hx hb d_Board_candidates_5 rfl (lv_at hl 0 rfl) ?_
  refine g_getI C hP gl_Board_48 rfl rfl d_Board_candidates_6 ?_
  refine lv_icmp_ge (tgt := 29) hx hb d_Board_candidates_9 (by decide) (fun hc9 => ?_) (fun hc9 => ?_)
  · replace hM := gi_t hc9 hM
    exact hE0 _ _ (Option.some.inj hM).symm ls H locs (lv_sub hl [1] rfl) hP hS
  · replace hM := gi_f hc9 hM
    refine lv_aload_n hx hb d_Board_candidates_12 rfl (lv_at hl 0 rfl) ?_
    refine lv_iload_n hx hb d_Board_candidates_13 rfl (lv_at hl 2 rfl) ?_
    obtain ⟨q14, hq14, hM⟩ := gb_some hM
    refine g_backI (g_runV (As := [.int x2]) C hP (c_Board_isCandidate C.2.2.2.2.2.2.2.2.1 hq14) gi_Board_isCandidate gm_Board_83 rfl rfl (by decide) (by decide) hl.1 rfl (Nat.le_of_ble_eq_true rfl) d_Board_candidates_14) hS (fun H locs hP hS => ?_)
    refine lv_if_eq (tgt := 23) hx hb d_Board_candidates_17 (by decide) (fun hc17 => ?_) (fun hc17 => ?_)
    · replace hM := gi_t hc17 hM
      exact t_Board_candidates_b23 C hM hN hE0 ls H locs (lv_sub hl [0, 1, 2] rfl) hP hS
    · replace hM := gi_f hc17 hM
      refine lv_iinc (k := 1) (v := x1 + (1 : Int32)) (lv' := [(1, .int (x1 + (1 : Int32))), (0, .ref (ρ 4)), (2, .int x2)]) hx hb d_Board_candidates_20 hl rfl (congrArg (fun z => x1 + z) (by decide)) (by decide) rfl (fun ls hl => ?_)
      exact t_Board_candidates_b23 C hM hN hE0 ls H locs (lv_sub hl [1, 0, 2] rfl) hP hS
noncomputable def M_Board_candidates_L4 : (Int32 × Int32 × gSt) → Option ((Int32 × Int32 × gSt) ⊕ ((Int32 × gSt))) := fun x => M_Board_candidates_b4 x.1 x.2.1 x.2.2
theorem t_Board_candidates_L4 (C : gX "TermDesk$Board" prog_3_method_10_code 3 (some .int) 4 88 R cells slots cy D ρ A p s m args meth c) {x1 : Int32} {x2 : Int32} {u : gSt} {yy : (Int32 × gSt)} (hL : gLp M_Board_candidates_L4 (x1, x2, u) = some yy) (hE0 : (∀ y', yy = y' → gAt p l e R s m args below meth c Q H0 cells slots cy D ρ A 3 29 [(1, .int (y'.1))] [] (y'.2))) : gAt p l e R s m args below meth c Q H0 cells slots cy D ρ A 3 4 [(0, .ref (ρ 4)), (1, .int x1), (2, .int x2)] [] u :=
  g_loop (f := M_Board_candidates_L4) (P := fun x => gAt p l e R s m args below meth c Q H0 cells slots cy D ρ A 3 4 [(0, .ref (ρ 4)), (1, .int x.1), (2, .int x.2.1)] [] x.2.2) (E := fun yy => (∀ y', yy = y' → gAt p l e R s m args below meth c Q H0 cells slots cy D ρ A 3 29 [(1, .int (y'.1))] [] (y'.2))) (fun x z hf hN hE => t_Board_candidates_b4 C hf (fun x1' x2' u' h => hN (x1', x2', u') h) (fun x1' u' h => (hE _ h) (x1', u') rfl)) hL hE0
noncomputable def M_Board_candidates (u : gSt) : Option ((Int32 × gSt)) :=
  (gLp M_Board_candidates_L4 ((0 : Int32), (0 : Int32), u)).bind fun y4 =>
  some (y4.1, y4.2)
set_option maxHeartbeats 4000000 in
set_option maxRecDepth 100000 in
theorem t_Board_candidates (C : gX "TermDesk$Board" prog_3_method_10_code 3 (some .int) 4 88 R cells slots cy D ρ A p s m args meth c) {u : gSt} {z : (Int32 × gSt)} (hM : M_Board_candidates u = some z) (hR : gRtI p l e R s m args below meth c Q H0 cells slots cy D ρ A prog_3_method_10_code z.1 z.2) : gAt p l e R s m args below meth c Q H0 cells slots cy D ρ A 3 0 [(0, .ref (ρ 4))] [] u := by
  intro ls H locs hl hP hS
  have hx := C.1
  have hb := C.2.1
  unfold M_Board_candidates at hM
  refine lv_iconst (v := (0 : Int32)) hx hb d_Board_candidates_0 (by decide) ?_
  refine lv_istore_n (lv' := [(1, .int (0 : Int32)), (0, .ref (ρ 4))]) hx hb d_Board_candidates_1 rfl hl (by decide) rfl (fun ls hl => ?_)
  refine lv_iconst (v := (0 : Int32)) hx hb d_Board_candidates_2 (by decide) ?_
  refine lv_istore_n (lv' := [(2, .int (0 : Int32)), (1, .int (0 : Int32)), (0, .ref (ρ 4))]) hx hb d_Board_candidates_3 rfl hl (by decide) rfl (fun ls hl => ?_)
  obtain ⟨y4, hL4, hM⟩ := gb_some hM
  refine t_Board_candidates_L4 C hL4 (fun y4_0 hy => ?_) ls H locs (lv_sub hl [2, 1, 0] rfl) hP hS
  · subst hy
    intro ls H locs hl hP hS
    refine lv_iload_n hx hb d_Board_candidates_29 rfl (lv_at hl 0 rfl) ?_
    obtain rfl := Option.some.inj hM
    exact hR _ ls H locs d_Board_candidates_30 hP hS
theorem c_Board_candidates {l : Launch} {cy : Nat → ClassId} {D : va_G} {ρ : Nat → Nat} {A : Nat → Prop} (hD : gD ρ A) {u : gSt} {z : (Int32 × gSt)} (hM : M_Board_candidates u = some z) : gCtI l y_Board_candidates prog_3_method_10_code 3 (some .int) 4 88 cy D ρ A [.ref (ρ 4)] u z.1 z.2 :=
  g_met (by decide) hD (Nat.le_of_ble_eq_true rfl) (fun p e s m below meth c ls X hl hP => t_Board_candidates X hM (fun pc ls H locs hd hP hS => g_iret X hP hS hd) ls _ [] hl hP va_S.rf)
end
section
variable {p : Program} {l : Launch} {e : Env} {R : Room} {s : State} {m : MethodId} {args : Array Value} {below : List Frame} {meth : Method} {c : Code} {Q : State → Prop} {H0 : Heap} {cells slots : Nat} {cy : Nat → ClassId} {D : va_G} {ρ : Nat → Nat} {A : Nat → Prop}
def y_Board_hasTerm : MethodName := ⟨"TermDesk$Board", "hasTerm", "(I)Z"⟩
theorem gi_Board_hasTerm : gMi y_Board_hasTerm prog_3_method_3_code 2 (some .boolean) 1 3 := ⟨(gWs_at 524 (by decide +kernel) (by decide +kernel)), (gWs_at 523 (by decide +kernel) (by decide +kernel)), (gWs_at 12 (by decide +kernel) (by decide +kernel)), (gWs_at 120 (by decide +kernel) (by decide +kernel)), ⟨by decide +kernel, by decide +kernel, by decide +kernel⟩, _, _, rfl⟩
theorem gm_Clerk_128 : gMk "TermDesk$Clerk" 128 y_Board_hasTerm := Or.inr ⟨"TermDesk", gNs_at 521 (by decide +kernel) (by decide +kernel)⟩
theorem gm_Desk_119 : gMk "TermDesk" 119 y_Board_hasTerm := Or.inr ⟨"TermDesk", gNs_at 780 (by decide +kernel) (by decide +kernel)⟩
theorem d_Board_hasTerm_0 : decode prog_3_method_3_code 0 = .ok (.iload_n 1, 1) := by decide +kernel
theorem d_Board_hasTerm_1 : decode prog_3_method_3_code 1 = .ok (.ifCond .lt 15, 3) := by decide +kernel
theorem d_Board_hasTerm_4 : decode prog_3_method_3_code 4 = .ok (.iload_n 1, 1) := by decide +kernel
theorem d_Board_hasTerm_5 : decode prog_3_method_3_code 5 = .ok (.aload_n 0, 1) := by decide +kernel
theorem d_Board_hasTerm_6 : decode prog_3_method_3_code 6 = .ok (.getfield 48, 3) := by decide +kernel
theorem d_Board_hasTerm_9 : decode prog_3_method_3_code 9 = .ok (.if_icmp .ge 7, 3) := by decide +kernel
theorem d_Board_hasTerm_12 : decode prog_3_method_3_code 12 = .ok (.iconst 1, 1) := by decide +kernel
theorem d_Board_hasTerm_13 : decode prog_3_method_3_code 13 = .ok (.goto 4, 3) := by decide +kernel
theorem d_Board_hasTerm_16 : decode prog_3_method_3_code 16 = .ok (.iconst 0, 1) := by decide +kernel
theorem d_Board_hasTerm_17 : decode prog_3_method_3_code 17 = .ok (.ireturn, 1) := by decide +kernel
noncomputable def M_Board_hasTerm_b17 (s0 : Int32) (u : gSt) : Option ((Int32 × gSt)) :=
  gc (gZ s0) <| some (s0, u)
set_option maxHeartbeats 4000000 in
set_option maxRecDepth 100000 in
theorem t_Board_hasTerm_b17 (C : gX "TermDesk$Board" prog_3_method_3_code 2 (some .boolean) 0 0 R cells slots cy D ρ A p s m args meth c) {s0 : Int32} {u : gSt} {z : (Int32 × gSt)} (hM : M_Board_hasTerm_b17 s0 u = some z) (hR : gRtZ p l e R s m args below meth c Q H0 cells slots cy D ρ A prog_3_method_3_code z.1 z.2) : gAt p l e R s m args below meth c Q H0 cells slots cy D ρ A 2 17 [] [.int s0] u := by
  intro ls H locs hl hP hS
  have hx := C.1
  have hb := C.2.1
  unfold M_Board_hasTerm_b17 at hM
  obtain ⟨hz17, hM⟩ := gc_some hM
  obtain rfl := Option.some.inj hM
  exact hR _ ls H locs hz17 d_Board_hasTerm_17 hP hS
noncomputable def M_Board_hasTerm_b16 (u : gSt) : Option ((Int32 × gSt)) :=
  M_Board_hasTerm_b17 (0 : Int32) u
set_option maxHeartbeats 4000000 in
set_option maxRecDepth 100000 in
theorem t_Board_hasTerm_b16 (C : gX "TermDesk$Board" prog_3_method_3_code 2 (some .boolean) 0 0 R cells slots cy D ρ A p s m args meth c) {u : gSt} {z : (Int32 × gSt)} (hM : M_Board_hasTerm_b16 u = some z) (hR : gRtZ p l e R s m args below meth c Q H0 cells slots cy D ρ A prog_3_method_3_code z.1 z.2) : gAt p l e R s m args below meth c Q H0 cells slots cy D ρ A 2 16 [] [] u := by
  intro ls H locs hl hP hS
  have hx := C.1
  have hb := C.2.1
  unfold M_Board_hasTerm_b16 at hM
  refine lv_iconst (v := (0 : Int32)) hx hb d_Board_hasTerm_16 (by decide) ?_
  exact t_Board_hasTerm_b17 C hM hR ls H locs (lv_sub hl [] rfl) hP hS
noncomputable def M_Board_hasTerm (x1 : Int32) (u : gSt) : Option ((Int32 × gSt)) :=
  if x1 < (0 : Int32) then
    (M_Board_hasTerm_b16 u)
  else
    (if (u.1 4 9) ≤ x1 then
      (M_Board_hasTerm_b16 u)
    else
      (M_Board_hasTerm_b17 (1 : Int32) u))
set_option maxHeartbeats 4000000 in
set_option maxRecDepth 100000 in
theorem t_Board_hasTerm (C : gX "TermDesk$Board" prog_3_method_3_code 2 (some .boolean) 0 0 R cells slots cy D ρ A p s m args meth c) {x1 : Int32} {u : gSt} {z : (Int32 × gSt)} (hM : M_Board_hasTerm x1 u = some z) (hR : gRtZ p l e R s m args below meth c Q H0 cells slots cy D ρ A prog_3_method_3_code z.1 z.2) : gAt p l e R s m args below meth c Q H0 cells slots cy D ρ A 2 0 [(0, .ref (ρ 4)), (1, .int x1)] [] u := by
  intro ls H locs hl hP hS
  have hx := C.1
  have hb := C.2.1
  unfold M_Board_hasTerm at hM
  refine lv_iload_n hx hb d_Board_hasTerm_0 rfl (lv_at hl 1 rfl) ?_
  refine lv_if_lt (tgt := 16) hx hb d_Board_hasTerm_1 (by decide) (fun hc1 => ?_) (fun hc1 => ?_)
  · replace hM := gi_t hc1 hM
    exact t_Board_hasTerm_b16 C hM hR ls H locs (lv_sub hl [] rfl) hP hS
  · replace hM := gi_f hc1 hM
    refine lv_iload_n hx hb d_Board_hasTerm_4 rfl (lv_at hl 1 rfl) ?_
    refine lv_aload_n hx hb d_Board_hasTerm_5 rfl (lv_at hl 0 rfl) ?_
    refine g_getI C hP gl_Board_48 rfl rfl d_Board_hasTerm_6 ?_
    refine lv_icmp_ge (tgt := 16) hx hb d_Board_hasTerm_9 (by decide) (fun hc9 => ?_) (fun hc9 => ?_)
    · replace hM := gi_t hc9 hM
      exact t_Board_hasTerm_b16 C hM hR ls H locs (lv_sub hl [] rfl) hP hS
    · replace hM := gi_f hc9 hM
      refine lv_iconst (v := (1 : Int32)) hx hb d_Board_hasTerm_12 (by decide) ?_
      refine lv_goto (tgt := 17) hx hb d_Board_hasTerm_13 (by decide) ?_
      exact t_Board_hasTerm_b17 C hM hR ls H locs (lv_sub hl [] rfl) hP hS
theorem c_Board_hasTerm {l : Launch} {cy : Nat → ClassId} {D : va_G} {ρ : Nat → Nat} {A : Nat → Prop} (hD : gD ρ A) {x1 : Int32} {u : gSt} {z : (Int32 × gSt)} (hM : M_Board_hasTerm x1 u = some z) : gCtI l y_Board_hasTerm prog_3_method_3_code 2 (some .boolean) 0 0 cy D ρ A [.ref (ρ 4), .int x1] u z.1 z.2 :=
  g_met (by decide) hD (Nat.le_of_ble_eq_true rfl) (fun p e s m below meth c ls X hl hP => t_Board_hasTerm X hM (fun pc ls H locs hz hd hP hS => g_zret X hP hS hz hd) ls _ [] hl hP va_S.rf)
end
section
variable {p : Program} {l : Launch} {e : Env} {R : Room} {s : State} {m : MethodId} {args : Array Value} {below : List Frame} {meth : Method} {c : Code} {Q : State → Prop} {H0 : Heap} {cells slots : Nat} {cy : Nat → ClassId} {D : va_G} {ρ : Nat → Nat} {A : Nat → Prop}
def y_Board_countBelow : MethodName := ⟨"TermDesk$Board", "countBelow", "(I)I"⟩
theorem gi_Board_countBelow : gMi y_Board_countBelow prog_3_method_11_code 4 (some .int) 1 3 := ⟨(gWs_at 801 (by decide +kernel) (by decide +kernel)), (gWs_at 800 (by decide +kernel) (by decide +kernel)), (gWs_at 39 (by decide +kernel) (by decide +kernel)), (gWs_at 120 (by decide +kernel) (by decide +kernel)), ⟨by decide +kernel, by decide +kernel, by decide +kernel⟩, _, _, rfl⟩
theorem gm_Desk_140 : gMk "TermDesk" 140 y_Board_countBelow := Or.inr ⟨"TermDesk", gNs_at 798 (by decide +kernel) (by decide +kernel)⟩
theorem d_Board_countBelow_0 : decode prog_3_method_11_code 0 = .ok (.iconst 0, 1) := by decide +kernel
theorem d_Board_countBelow_1 : decode prog_3_method_11_code 1 = .ok (.istore_n 2, 1) := by decide +kernel
theorem d_Board_countBelow_2 : decode prog_3_method_11_code 2 = .ok (.iconst 0, 1) := by decide +kernel
theorem d_Board_countBelow_3 : decode prog_3_method_11_code 3 = .ok (.istore_n 3, 1) := by decide +kernel
theorem d_Board_countBelow_4 : decode prog_3_method_11_code 4 = .ok (.iload_n 3, 1) := by decide +kernel
theorem d_Board_countBelow_5 : decode prog_3_method_11_code 5 = .ok (.aload_n 0, 1) := by decide +kernel
theorem d_Board_countBelow_6 : decode prog_3_method_11_code 6 = .ok (.getfield 48, 3) := by decide +kernel
theorem d_Board_countBelow_9 : decode prog_3_method_11_code 9 = .ok (.if_icmp .ge 24, 3) := by decide +kernel
theorem d_Board_countBelow_12 : decode prog_3_method_11_code 12 = .ok (.aload_n 0, 1) := by decide +kernel
theorem d_Board_countBelow_13 : decode prog_3_method_11_code 13 = .ok (.getfield 30, 3) := by decide +kernel
theorem d_Board_countBelow_16 : decode prog_3_method_11_code 16 = .ok (.iload_n 3, 1) := by decide +kernel
theorem d_Board_countBelow_17 : decode prog_3_method_11_code 17 = .ok (.iload_n 1, 1) := by decide +kernel
theorem d_Board_countBelow_18 : decode prog_3_method_11_code 18 = .ok (.invokevirtual 65, 3) := by decide +kernel
theorem d_Board_countBelow_21 : decode prog_3_method_11_code 21 = .ok (.ifCond .eq 6, 3) := by decide +kernel
theorem d_Board_countBelow_24 : decode prog_3_method_11_code 24 = .ok (.iinc 2 1, 3) := by decide +kernel
theorem d_Board_countBelow_27 : decode prog_3_method_11_code 27 = .ok (.iinc 3 1, 3) := by decide +kernel
theorem d_Board_countBelow_30 : decode prog_3_method_11_code 30 = .ok (.goto (-26), 3) := by decide +kernel
theorem d_Board_countBelow_33 : decode prog_3_method_11_code 33 = .ok (.iload_n 2, 1) := by decide +kernel
theorem d_Board_countBelow_34 : decode prog_3_method_11_code 34 = .ok (.ireturn, 1) := by decide +kernel
noncomputable def M_Board_countBelow_b27 (x1 : Int32) (x2 : Int32) (x3 : Int32) (u : gSt) : Option ((Int32 × Int32 × Int32 × gSt) ⊕ ((Int32 × gSt))) :=
  some (.inl (x1, x2, x3 + (1 : Int32), u))
set_option maxHeartbeats 4000000 in
set_option maxRecDepth 100000 in
theorem t_Board_countBelow_b27 (C : gX "TermDesk$Board" prog_3_method_11_code 4 (some .int) 1 22 R cells slots cy D ρ A p s m args meth c) {x1 : Int32} {x2 : Int32} {x3 : Int32} {u : gSt} {z : (Int32 × Int32 × Int32 × gSt) ⊕ ((Int32 × gSt))} (hM : M_Board_countBelow_b27 x1 x2 x3 u = some z) (hN : ∀ x1' x2' x3' u', z = .inl (x1', x2', x3', u') → gAt p l e R s m args below meth c Q H0 cells slots cy D ρ A 4 4 [(0, .ref (ρ 4)), (1, .int (x1')), (2, .int (x2')), (3, .int (x3'))] [] (u')) (hE0 : ∀ x2' u', z = .inr (x2', u') → gAt p l e R s m args below meth c Q H0 cells slots cy D ρ A 4 33 [(2, .int (x2'))] [] (u')) : gAt p l e R s m args below meth c Q H0 cells slots cy D ρ A 4 27 [(0, .ref (ρ 4)), (1, .int x1), (2, .int x2), (3, .int x3)] [] u := by
  intro ls H locs hl hP hS
  have hx := C.1
  have hb := C.2.1
  unfold M_Board_countBelow_b27 at hM
  refine lv_iinc (k := 3) (v := x3 + (1 : Int32)) (lv' := [(3, .int (x3 + (1 : Int32))), (0, .ref (ρ 4)), (1, .int x1), (2, .int x2)]) hx hb d_Board_countBelow_27 hl rfl (congrArg (fun z => x3 + z) (by decide)) (by decide) rfl (fun ls hl => ?_)
  refine lv_goto (tgt := 4) hx hb d_Board_countBelow_30 (by decide) ?_
  exact hN _ _ _ _ (Option.some.inj hM).symm ls H locs (lv_sub hl [1, 2, 3, 0] rfl) hP hS
noncomputable def M_Board_countBelow_b4 (x1 : Int32) (x2 : Int32) (x3 : Int32) (u : gSt) : Option ((Int32 × Int32 × Int32 × gSt) ⊕ ((Int32 × gSt))) :=
  if (u.1 4 9) ≤ x3 then
    (some (.inr (x2, u)))
  else
    ((M_Grid_has 15 x3 x1 u).bind fun q18 =>
    if q18.1 = (0 : Int32) then
      (M_Board_countBelow_b27 x1 x2 x3 q18.2)
    else
      (M_Board_countBelow_b27 x1 (x2 + (1 : Int32)) x3 q18.2))
set_option maxHeartbeats 4000000 in
set_option maxRecDepth 100000 in
theorem t_Board_countBelow_b4 (C : gX "TermDesk$Board" prog_3_method_11_code 4 (some .int) 1 22 R cells slots cy D ρ A p s m args meth c) {x1 : Int32} {x2 : Int32} {x3 : Int32} {u : gSt} {z : (Int32 × Int32 × Int32 × gSt) ⊕ ((Int32 × gSt))} (hM : M_Board_countBelow_b4 x1 x2 x3 u = some z) (hN : ∀ x1' x2' x3' u', z = .inl (x1', x2', x3', u') → gAt p l e R s m args below meth c Q H0 cells slots cy D ρ A 4 4 [(0, .ref (ρ 4)), (1, .int (x1')), (2, .int (x2')), (3, .int (x3'))] [] (u')) (hE0 : ∀ x2' u', z = .inr (x2', u') → gAt p l e R s m args below meth c Q H0 cells slots cy D ρ A 4 33 [(2, .int (x2'))] [] (u')) : gAt p l e R s m args below meth c Q H0 cells slots cy D ρ A 4 4 [(0, .ref (ρ 4)), (1, .int x1), (2, .int x2), (3, .int x3)] [] u := by
  intro ls H locs hl hP hS
  have hx := C.1
  have hb := C.2.1
  unfold M_Board_countBelow_b4 at hM
  refine lv_iload_n hx hb d_Board_countBelow_4 rfl (lv_at hl 3 rfl) ?_
  refine lv_aload_n hx hb d_Board_countBelow_5 rfl (lv_at hl 0 rfl) ?_
  refine g_getI C hP gl_Board_48 rfl rfl d_Board_countBelow_6 ?_
  refine lv_icmp_ge (tgt := 33) hx hb d_Board_countBelow_9 (by decide) (fun hc9 => ?_) (fun hc9 => ?_)
  · replace hM := gi_t hc9 hM
    exact hE0 _ _ (Option.some.inj hM).symm ls H locs (lv_sub hl [2] rfl) hP hS
  · replace hM := gi_f hc9 hM
    refine lv_aload_n hx hb d_Board_countBelow_12 rfl (lv_at hl 0 rfl) ?_
    refine g_getR (b := 15) C hP gl_Board_30 rfl rfl rfl d_Board_countBelow_13 ?_
    refine lv_iload_n hx hb d_Board_countBelow_16 rfl (lv_at hl 3 rfl) ?_
    refine lv_iload_n hx hb d_Board_countBelow_17 rfl (lv_at hl 1 rfl) ?_
    obtain ⟨q18, hq18, hM⟩ := gb_some hM
    refine g_backI (g_runV (As := [.int x3, .int x1]) C hP (c_Grid_has C.2.2.2.2.2.2.2.2.1 hq18) gi_Grid_has gm_Board_65 rfl rfl (by decide) (by decide) hl.1 rfl (Nat.le_of_ble_eq_true rfl) d_Board_countBelow_18) hS (fun H locs hP hS => ?_)
    refine lv_if_eq (tgt := 27) hx hb d_Board_countBelow_21 (by decide) (fun hc21 => ?_) (fun hc21 => ?_)
    · replace hM := gi_t hc21 hM
      exact t_Board_countBelow_b27 C hM hN hE0 ls H locs (lv_sub hl [0, 1, 2, 3] rfl) hP hS
    · replace hM := gi_f hc21 hM
      refine lv_iinc (k := 2) (v := x2 + (1 : Int32)) (lv' := [(2, .int (x2 + (1 : Int32))), (0, .ref (ρ 4)), (1, .int x1), (3, .int x3)]) hx hb d_Board_countBelow_24 hl rfl (congrArg (fun z => x2 + z) (by decide)) (by decide) rfl (fun ls hl => ?_)
      exact t_Board_countBelow_b27 C hM hN hE0 ls H locs (lv_sub hl [1, 2, 0, 3] rfl) hP hS
noncomputable def M_Board_countBelow_L4 : (Int32 × Int32 × Int32 × gSt) → Option ((Int32 × Int32 × Int32 × gSt) ⊕ ((Int32 × gSt))) := fun x => M_Board_countBelow_b4 x.1 x.2.1 x.2.2.1 x.2.2.2
theorem t_Board_countBelow_L4 (C : gX "TermDesk$Board" prog_3_method_11_code 4 (some .int) 1 22 R cells slots cy D ρ A p s m args meth c) {x1 : Int32} {x2 : Int32} {x3 : Int32} {u : gSt} {yy : (Int32 × gSt)} (hL : gLp M_Board_countBelow_L4 (x1, x2, x3, u) = some yy) (hE0 : (∀ y', yy = y' → gAt p l e R s m args below meth c Q H0 cells slots cy D ρ A 4 33 [(2, .int (y'.1))] [] (y'.2))) : gAt p l e R s m args below meth c Q H0 cells slots cy D ρ A 4 4 [(0, .ref (ρ 4)), (1, .int x1), (2, .int x2), (3, .int x3)] [] u :=
  g_loop (f := M_Board_countBelow_L4) (P := fun x => gAt p l e R s m args below meth c Q H0 cells slots cy D ρ A 4 4 [(0, .ref (ρ 4)), (1, .int x.1), (2, .int x.2.1), (3, .int x.2.2.1)] [] x.2.2.2) (E := fun yy => (∀ y', yy = y' → gAt p l e R s m args below meth c Q H0 cells slots cy D ρ A 4 33 [(2, .int (y'.1))] [] (y'.2))) (fun x z hf hN hE => t_Board_countBelow_b4 C hf (fun x1' x2' x3' u' h => hN (x1', x2', x3', u') h) (fun x2' u' h => (hE _ h) (x2', u') rfl)) hL hE0
noncomputable def M_Board_countBelow (x1 : Int32) (u : gSt) : Option ((Int32 × gSt)) :=
  (gLp M_Board_countBelow_L4 (x1, (0 : Int32), (0 : Int32), u)).bind fun y4 =>
  some (y4.1, y4.2)
set_option maxHeartbeats 4000000 in
set_option maxRecDepth 100000 in
theorem t_Board_countBelow (C : gX "TermDesk$Board" prog_3_method_11_code 4 (some .int) 1 22 R cells slots cy D ρ A p s m args meth c) {x1 : Int32} {u : gSt} {z : (Int32 × gSt)} (hM : M_Board_countBelow x1 u = some z) (hR : gRtI p l e R s m args below meth c Q H0 cells slots cy D ρ A prog_3_method_11_code z.1 z.2) : gAt p l e R s m args below meth c Q H0 cells slots cy D ρ A 4 0 [(0, .ref (ρ 4)), (1, .int x1)] [] u := by
  intro ls H locs hl hP hS
  have hx := C.1
  have hb := C.2.1
  unfold M_Board_countBelow at hM
  refine lv_iconst (v := (0 : Int32)) hx hb d_Board_countBelow_0 (by decide) ?_
  refine lv_istore_n (lv' := [(2, .int (0 : Int32)), (0, .ref (ρ 4)), (1, .int x1)]) hx hb d_Board_countBelow_1 rfl hl (by decide) rfl (fun ls hl => ?_)
  refine lv_iconst (v := (0 : Int32)) hx hb d_Board_countBelow_2 (by decide) ?_
  refine lv_istore_n (lv' := [(3, .int (0 : Int32)), (2, .int (0 : Int32)), (0, .ref (ρ 4)), (1, .int x1)]) hx hb d_Board_countBelow_3 rfl hl (by decide) rfl (fun ls hl => ?_)
  obtain ⟨y4, hL4, hM⟩ := gb_some hM
  refine t_Board_countBelow_L4 C hL4 (fun y4_0 hy => ?_) ls H locs (lv_sub hl [2, 3, 1, 0] rfl) hP hS
  · subst hy
    intro ls H locs hl hP hS
    refine lv_iload_n hx hb d_Board_countBelow_33 rfl (lv_at hl 0 rfl) ?_
    obtain rfl := Option.some.inj hM
    exact hR _ ls H locs d_Board_countBelow_34 hP hS
theorem c_Board_countBelow {l : Launch} {cy : Nat → ClassId} {D : va_G} {ρ : Nat → Nat} {A : Nat → Prop} (hD : gD ρ A) {x1 : Int32} {u : gSt} {z : (Int32 × gSt)} (hM : M_Board_countBelow x1 u = some z) : gCtI l y_Board_countBelow prog_3_method_11_code 4 (some .int) 1 22 cy D ρ A [.ref (ρ 4), .int x1] u z.1 z.2 :=
  g_met (by decide) hD (Nat.le_of_ble_eq_true rfl) (fun p e s m below meth c ls X hl hP => t_Board_countBelow X hM (fun pc ls H locs hd hP hS => g_iret X hP hS hd) ls _ [] hl hP va_S.rf)
end
section
variable {p : Program} {l : Launch} {e : Env} {R : Room} {s : State} {m : MethodId} {args : Array Value} {below : List Frame} {meth : Method} {c : Code} {Q : State → Prop} {H0 : Heap} {cells slots : Nat} {cy : Nat → ClassId} {D : va_G} {ρ : Nat → Nat} {A : Nat → Prop}
def y_Board_genesAt : MethodName := ⟨"TermDesk$Board", "genesAt", "(I)I"⟩
theorem gi_Board_genesAt : gMi y_Board_genesAt prog_3_method_7_code 2 (some .int) 1 3 := ⟨(gWs_at 805 (by decide +kernel) (by decide +kernel)), (gWs_at 804 (by decide +kernel) (by decide +kernel)), (gWs_at 40 (by decide +kernel) (by decide +kernel)), (gWs_at 120 (by decide +kernel) (by decide +kernel)), ⟨by decide +kernel, by decide +kernel, by decide +kernel⟩, _, _, rfl⟩
theorem gm_Desk_143 : gMk "TermDesk" 143 y_Board_genesAt := Or.inr ⟨"TermDesk", gNs_at 802 (by decide +kernel) (by decide +kernel)⟩
theorem gm_Ranking_110 : gMk "TermDesk$Ranking" 110 y_Board_genesAt := Or.inr ⟨"TermDesk", gNs_at 873 (by decide +kernel) (by decide +kernel)⟩
theorem d_Board_genesAt_0 : decode prog_3_method_7_code 0 = .ok (.aload_n 0, 1) := by decide +kernel
theorem d_Board_genesAt_1 : decode prog_3_method_7_code 1 = .ok (.getfield 36, 3) := by decide +kernel
theorem d_Board_genesAt_4 : decode prog_3_method_7_code 4 = .ok (.iload_n 1, 1) := by decide +kernel
theorem d_Board_genesAt_5 : decode prog_3_method_7_code 5 = .ok (.invokevirtual 69, 3) := by decide +kernel
theorem d_Board_genesAt_8 : decode prog_3_method_7_code 8 = .ok (.ireturn, 1) := by decide +kernel
noncomputable def M_Board_genesAt (x1 : Int32) (u : gSt) : Option ((Int32 × gSt)) :=
  (M_Grid_count 19 x1 u).bind fun q5 =>
  some (q5.1, q5.2)
set_option maxHeartbeats 4000000 in
set_option maxRecDepth 100000 in
theorem t_Board_genesAt (C : gX "TermDesk$Board" prog_3_method_7_code 2 (some .int) 3 67 R cells slots cy D ρ A p s m args meth c) {x1 : Int32} {u : gSt} {z : (Int32 × gSt)} (hM : M_Board_genesAt x1 u = some z) (hR : gRtI p l e R s m args below meth c Q H0 cells slots cy D ρ A prog_3_method_7_code z.1 z.2) : gAt p l e R s m args below meth c Q H0 cells slots cy D ρ A 2 0 [(0, .ref (ρ 4)), (1, .int x1)] [] u := by
  intro ls H locs hl hP hS
  have hx := C.1
  have hb := C.2.1
  unfold M_Board_genesAt at hM
  refine lv_aload_n hx hb d_Board_genesAt_0 rfl (lv_at hl 0 rfl) ?_
  refine g_getR (b := 19) C hP gl_Board_36 rfl rfl rfl d_Board_genesAt_1 ?_
  refine lv_iload_n hx hb d_Board_genesAt_4 rfl (lv_at hl 1 rfl) ?_
  obtain ⟨q5, hq5, hM⟩ := gb_some hM
  refine g_backI (g_runV (As := [.int x1]) C hP (c_Grid_count C.2.2.2.2.2.2.2.2.1 hq5) gi_Grid_count gm_Board_69 rfl rfl (by decide) (by decide) hl.1 rfl (Nat.le_of_ble_eq_true rfl) d_Board_genesAt_5) hS (fun H locs hP hS => ?_)
  obtain rfl := Option.some.inj hM
  exact hR _ ls H locs d_Board_genesAt_8 hP hS
theorem c_Board_genesAt {l : Launch} {cy : Nat → ClassId} {D : va_G} {ρ : Nat → Nat} {A : Nat → Prop} (hD : gD ρ A) {x1 : Int32} {u : gSt} {z : (Int32 × gSt)} (hM : M_Board_genesAt x1 u = some z) : gCtI l y_Board_genesAt prog_3_method_7_code 2 (some .int) 3 67 cy D ρ A [.ref (ρ 4), .int x1] u z.1 z.2 :=
  g_met (by decide) hD (Nat.le_of_ble_eq_true rfl) (fun p e s m below meth c ls X hl hP => t_Board_genesAt X hM (fun pc ls H locs hd hP hS => g_iret X hP hS hd) ls _ [] hl hP va_S.rf)
end
section
variable {p : Program} {l : Launch} {e : Env} {R : Room} {s : State} {m : MethodId} {args : Array Value} {below : List Frame} {meth : Method} {c : Code} {Q : State → Prop} {H0 : Heap} {cells slots : Nat} {cy : Nat → ClassId} {D : va_G} {ρ : Nat → Nat} {A : Nat → Prop}
def y_Board_longestWayUp : MethodName := ⟨"TermDesk$Board", "longestWayUp", "(I)I"⟩
theorem gi_Board_longestWayUp : gMi y_Board_longestWayUp prog_3_method_12_code 6 (some .int) 1 3 := ⟨(gWs_at 811 (by decide +kernel) (by decide +kernel)), (gWs_at 810 (by decide +kernel) (by decide +kernel)), (gWs_at 41 (by decide +kernel) (by decide +kernel)), (gWs_at 120 (by decide +kernel) (by decide +kernel)), ⟨by decide +kernel, by decide +kernel, by decide +kernel⟩, _, _, rfl⟩
theorem gm_Desk_152 : gMk "TermDesk" 152 y_Board_longestWayUp := Or.inr ⟨"TermDesk", gNs_at 808 (by decide +kernel) (by decide +kernel)⟩
theorem d_Board_longestWayUp_0 : decode prog_3_method_12_code 0 = .ok (.aload_n 0, 1) := by decide +kernel
theorem d_Board_longestWayUp_1 : decode prog_3_method_12_code 1 = .ok (.getfield 45, 3) := by decide +kernel
theorem d_Board_longestWayUp_4 : decode prog_3_method_12_code 4 = .ok (.invokevirtual 86, 3) := by decide +kernel
theorem d_Board_longestWayUp_7 : decode prog_3_method_12_code 7 = .ok (.aload_n 0, 1) := by decide +kernel
theorem d_Board_longestWayUp_8 : decode prog_3_method_12_code 8 = .ok (.getfield 45, 3) := by decide +kernel
theorem d_Board_longestWayUp_11 : decode prog_3_method_12_code 11 = .ok (.iconst 0, 1) := by decide +kernel
theorem d_Board_longestWayUp_12 : decode prog_3_method_12_code 12 = .ok (.iload_n 1, 1) := by decide +kernel
theorem d_Board_longestWayUp_13 : decode prog_3_method_12_code 13 = .ok (.invokevirtual 89, 3) := by decide +kernel
theorem d_Board_longestWayUp_16 : decode prog_3_method_12_code 16 = .ok (.iconst 1, 1) := by decide +kernel
theorem d_Board_longestWayUp_17 : decode prog_3_method_12_code 17 = .ok (.istore_n 2, 1) := by decide +kernel
theorem d_Board_longestWayUp_18 : decode prog_3_method_12_code 18 = .ok (.iload_n 2, 1) := by decide +kernel
theorem d_Board_longestWayUp_19 : decode prog_3_method_12_code 19 = .ok (.sipush 200, 3) := by decide +kernel
theorem d_Board_longestWayUp_22 : decode prog_3_method_12_code 22 = .ok (.if_icmp .ge 91, 3) := by decide +kernel
theorem d_Board_longestWayUp_25 : decode prog_3_method_12_code 25 = .ok (.iload_n 2, 1) := by decide +kernel
theorem d_Board_longestWayUp_26 : decode prog_3_method_12_code 26 = .ok (.iconst 1, 1) := by decide +kernel
theorem d_Board_longestWayUp_27 : decode prog_3_method_12_code 27 = .ok (.isub, 1) := by decide +kernel
theorem d_Board_longestWayUp_28 : decode prog_3_method_12_code 28 = .ok (.iconst 2, 1) := by decide +kernel
theorem d_Board_longestWayUp_29 : decode prog_3_method_12_code 29 = .ok (.irem, 1) := by decide +kernel
theorem d_Board_longestWayUp_30 : decode prog_3_method_12_code 30 = .ok (.istore_n 3, 1) := by decide +kernel
theorem d_Board_longestWayUp_31 : decode prog_3_method_12_code 31 = .ok (.iload_n 2, 1) := by decide +kernel
theorem d_Board_longestWayUp_32 : decode prog_3_method_12_code 32 = .ok (.iconst 2, 1) := by decide +kernel
theorem d_Board_longestWayUp_33 : decode prog_3_method_12_code 33 = .ok (.irem, 1) := by decide +kernel
theorem d_Board_longestWayUp_34 : decode prog_3_method_12_code 34 = .ok (.istore 4, 2) := by decide +kernel
theorem d_Board_longestWayUp_36 : decode prog_3_method_12_code 36 = .ok (.aload_n 0, 1) := by decide +kernel
theorem d_Board_longestWayUp_37 : decode prog_3_method_12_code 37 = .ok (.getfield 45, 3) := by decide +kernel
theorem d_Board_longestWayUp_40 : decode prog_3_method_12_code 40 = .ok (.iload 4, 2) := by decide +kernel
theorem d_Board_longestWayUp_42 : decode prog_3_method_12_code 42 = .ok (.invokevirtual 93, 3) := by decide +kernel
theorem d_Board_longestWayUp_45 : decode prog_3_method_12_code 45 = .ok (.iconst 0, 1) := by decide +kernel
theorem d_Board_longestWayUp_46 : decode prog_3_method_12_code 46 = .ok (.istore 5, 2) := by decide +kernel
theorem d_Board_longestWayUp_48 : decode prog_3_method_12_code 48 = .ok (.iload 5, 2) := by decide +kernel
theorem d_Board_longestWayUp_50 : decode prog_3_method_12_code 50 = .ok (.aload_n 0, 1) := by decide +kernel
theorem d_Board_longestWayUp_51 : decode prog_3_method_12_code 51 = .ok (.getfield 48, 3) := by decide +kernel
theorem d_Board_longestWayUp_54 : decode prog_3_method_12_code 54 = .ok (.if_icmp .ge 37, 3) := by decide +kernel
theorem d_Board_longestWayUp_57 : decode prog_3_method_12_code 57 = .ok (.aload_n 0, 1) := by decide +kernel
theorem d_Board_longestWayUp_58 : decode prog_3_method_12_code 58 = .ok (.getfield 45, 3) := by decide +kernel
theorem d_Board_longestWayUp_61 : decode prog_3_method_12_code 61 = .ok (.iload_n 3, 1) := by decide +kernel
theorem d_Board_longestWayUp_62 : decode prog_3_method_12_code 62 = .ok (.iload 5, 2) := by decide +kernel
theorem d_Board_longestWayUp_64 : decode prog_3_method_12_code 64 = .ok (.invokevirtual 65, 3) := by decide +kernel
theorem d_Board_longestWayUp_67 : decode prog_3_method_12_code 67 = .ok (.ifCond .eq 18, 3) := by decide +kernel
theorem d_Board_longestWayUp_70 : decode prog_3_method_12_code 70 = .ok (.aload_n 0, 1) := by decide +kernel
theorem d_Board_longestWayUp_71 : decode prog_3_method_12_code 71 = .ok (.getfield 45, 3) := by decide +kernel
theorem d_Board_longestWayUp_74 : decode prog_3_method_12_code 74 = .ok (.iload 4, 2) := by decide +kernel
theorem d_Board_longestWayUp_76 : decode prog_3_method_12_code 76 = .ok (.aload_n 0, 1) := by decide +kernel
theorem d_Board_longestWayUp_77 : decode prog_3_method_12_code 77 = .ok (.getfield 26, 3) := by decide +kernel
theorem d_Board_longestWayUp_80 : decode prog_3_method_12_code 80 = .ok (.iload 5, 2) := by decide +kernel
theorem d_Board_longestWayUp_82 : decode prog_3_method_12_code 82 = .ok (.invokevirtual 96, 3) := by decide +kernel
theorem d_Board_longestWayUp_85 : decode prog_3_method_12_code 85 = .ok (.iinc 5 1, 3) := by decide +kernel
theorem d_Board_longestWayUp_88 : decode prog_3_method_12_code 88 = .ok (.goto (-40), 3) := by decide +kernel
theorem d_Board_longestWayUp_91 : decode prog_3_method_12_code 91 = .ok (.aload_n 0, 1) := by decide +kernel
theorem d_Board_longestWayUp_92 : decode prog_3_method_12_code 92 = .ok (.getfield 45, 3) := by decide +kernel
theorem d_Board_longestWayUp_95 : decode prog_3_method_12_code 95 = .ok (.iload 4, 2) := by decide +kernel
theorem d_Board_longestWayUp_97 : decode prog_3_method_12_code 97 = .ok (.invokevirtual 69, 3) := by decide +kernel
theorem d_Board_longestWayUp_100 : decode prog_3_method_12_code 100 = .ok (.ifCond .ne 7, 3) := by decide +kernel
theorem d_Board_longestWayUp_103 : decode prog_3_method_12_code 103 = .ok (.iload_n 2, 1) := by decide +kernel
theorem d_Board_longestWayUp_104 : decode prog_3_method_12_code 104 = .ok (.iconst 1, 1) := by decide +kernel
theorem d_Board_longestWayUp_105 : decode prog_3_method_12_code 105 = .ok (.isub, 1) := by decide +kernel
theorem d_Board_longestWayUp_106 : decode prog_3_method_12_code 106 = .ok (.ireturn, 1) := by decide +kernel
theorem d_Board_longestWayUp_107 : decode prog_3_method_12_code 107 = .ok (.iinc 2 1, 3) := by decide +kernel
theorem d_Board_longestWayUp_110 : decode prog_3_method_12_code 110 = .ok (.goto (-92), 3) := by decide +kernel
theorem d_Board_longestWayUp_113 : decode prog_3_method_12_code 113 = .ok (.sipush 199, 3) := by decide +kernel
theorem d_Board_longestWayUp_116 : decode prog_3_method_12_code 116 = .ok (.ireturn, 1) := by decide +kernel
noncomputable def M_Board_longestWayUp_b85 (x2 : Int32) (x3 : Int32) (x4 : Int32) (x5 : Int32) (u : gSt) : Option ((Int32 × Int32 × Int32 × Int32 × gSt) ⊕ ((Int32 × Int32 × gSt))) :=
  some (.inl (x2, x3, x4, x5 + (1 : Int32), u))
set_option maxHeartbeats 4000000 in
set_option maxRecDepth 100000 in
theorem t_Board_longestWayUp_b85 (C : gX "TermDesk$Board" prog_3_method_12_code 6 (some .int) 3 67 R cells slots cy D ρ A p s m args meth c) {x2 : Int32} {x3 : Int32} {x4 : Int32} {x5 : Int32} {u : gSt} {z : (Int32 × Int32 × Int32 × Int32 × gSt) ⊕ ((Int32 × Int32 × gSt))} (hM : M_Board_longestWayUp_b85 x2 x3 x4 x5 u = some z) (hN : ∀ x2' x3' x4' x5' u', z = .inl (x2', x3', x4', x5', u') → gAt p l e R s m args below meth c Q H0 cells slots cy D ρ A 6 48 [(0, .ref (ρ 4)), (2, .int (x2')), (3, .int (x3')), (4, .int (x4')), (5, .int (x5'))] [] (u')) (hE0 : ∀ x2' x4' u', z = .inr (x2', x4', u') → gAt p l e R s m args below meth c Q H0 cells slots cy D ρ A 6 91 [(0, .ref (ρ 4)), (2, .int (x2')), (4, .int (x4'))] [] (u')) : gAt p l e R s m args below meth c Q H0 cells slots cy D ρ A 6 85 [(0, .ref (ρ 4)), (2, .int x2), (3, .int x3), (4, .int x4), (5, .int x5)] [] u := by
  intro ls H locs hl hP hS
  have hx := C.1
  have hb := C.2.1
  unfold M_Board_longestWayUp_b85 at hM
  refine lv_iinc (k := 4) (v := x5 + (1 : Int32)) (lv' := [(5, .int (x5 + (1 : Int32))), (0, .ref (ρ 4)), (2, .int x2), (3, .int x3), (4, .int x4)]) hx hb d_Board_longestWayUp_85 hl rfl (congrArg (fun z => x5 + z) (by decide)) (by decide) rfl (fun ls hl => ?_)
  refine lv_goto (tgt := 48) hx hb d_Board_longestWayUp_88 (by decide) ?_
  exact hN _ _ _ _ _ (Option.some.inj hM).symm ls H locs (lv_sub hl [1, 2, 3, 4, 0] rfl) hP hS
noncomputable def M_Board_longestWayUp_b48 (x2 : Int32) (x3 : Int32) (x4 : Int32) (x5 : Int32) (u : gSt) : Option ((Int32 × Int32 × Int32 × Int32 × gSt) ⊕ ((Int32 × Int32 × gSt))) :=
  if (u.1 4 9) ≤ x5 then
    (some (.inr (x2, x4, u)))
  else
    ((M_Grid_has 25 x3 x5 u).bind fun q64 =>
    if q64.1 = (0 : Int32) then
      (M_Board_longestWayUp_b85 x2 x3 x4 x5 q64.2)
    else
      ((M_Grid_join 25 x4 13 x5 q64.2).bind fun q82 =>
      M_Board_longestWayUp_b85 x2 x3 x4 x5 q82))
set_option maxHeartbeats 4000000 in
set_option maxRecDepth 100000 in
theorem t_Board_longestWayUp_b48 (C : gX "TermDesk$Board" prog_3_method_12_code 6 (some .int) 3 67 R cells slots cy D ρ A p s m args meth c) {x2 : Int32} {x3 : Int32} {x4 : Int32} {x5 : Int32} {u : gSt} {z : (Int32 × Int32 × Int32 × Int32 × gSt) ⊕ ((Int32 × Int32 × gSt))} (hM : M_Board_longestWayUp_b48 x2 x3 x4 x5 u = some z) (hN : ∀ x2' x3' x4' x5' u', z = .inl (x2', x3', x4', x5', u') → gAt p l e R s m args below meth c Q H0 cells slots cy D ρ A 6 48 [(0, .ref (ρ 4)), (2, .int (x2')), (3, .int (x3')), (4, .int (x4')), (5, .int (x5'))] [] (u')) (hE0 : ∀ x2' x4' u', z = .inr (x2', x4', u') → gAt p l e R s m args below meth c Q H0 cells slots cy D ρ A 6 91 [(0, .ref (ρ 4)), (2, .int (x2')), (4, .int (x4'))] [] (u')) : gAt p l e R s m args below meth c Q H0 cells slots cy D ρ A 6 48 [(0, .ref (ρ 4)), (2, .int x2), (3, .int x3), (4, .int x4), (5, .int x5)] [] u := by
  intro ls H locs hl hP hS
  have hx := C.1
  have hb := C.2.1
  unfold M_Board_longestWayUp_b48 at hM
  refine lv_iload hx hb d_Board_longestWayUp_48 (lv_at hl 4 rfl) ?_
  refine lv_aload_n hx hb d_Board_longestWayUp_50 rfl (lv_at hl 0 rfl) ?_
  refine g_getI C hP gl_Board_48 rfl rfl d_Board_longestWayUp_51 ?_
  refine lv_icmp_ge (tgt := 91) hx hb d_Board_longestWayUp_54 (by decide) (fun hc54 => ?_) (fun hc54 => ?_)
  · replace hM := gi_t hc54 hM
    exact hE0 _ _ _ (Option.some.inj hM).symm ls H locs (lv_sub hl [0, 1, 3] rfl) hP hS
  · replace hM := gi_f hc54 hM
    refine lv_aload_n hx hb d_Board_longestWayUp_57 rfl (lv_at hl 0 rfl) ?_
    refine g_getR (b := 25) C hP gl_Board_45 rfl rfl rfl d_Board_longestWayUp_58 ?_
    refine lv_iload_n hx hb d_Board_longestWayUp_61 rfl (lv_at hl 2 rfl) ?_
    refine lv_iload hx hb d_Board_longestWayUp_62 (lv_at hl 4 rfl) ?_
    obtain ⟨q64, hq64, hM⟩ := gb_some hM
    refine g_backI (g_runV (As := [.int x3, .int x5]) C hP (c_Grid_has C.2.2.2.2.2.2.2.2.1 hq64) gi_Grid_has gm_Board_65 rfl rfl (by decide) (by decide) hl.1 rfl (Nat.le_of_ble_eq_true rfl) d_Board_longestWayUp_64) hS (fun H locs hP hS => ?_)
    refine lv_if_eq (tgt := 85) hx hb d_Board_longestWayUp_67 (by decide) (fun hc67 => ?_) (fun hc67 => ?_)
    · replace hM := gi_t hc67 hM
      exact t_Board_longestWayUp_b85 C hM hN hE0 ls H locs (lv_sub hl [0, 1, 2, 3, 4] rfl) hP hS
    · replace hM := gi_f hc67 hM
      refine lv_aload_n hx hb d_Board_longestWayUp_70 rfl (lv_at hl 0 rfl) ?_
      refine g_getR (b := 25) C hP gl_Board_45 rfl rfl rfl d_Board_longestWayUp_71 ?_
      refine lv_iload hx hb d_Board_longestWayUp_74 (lv_at hl 3 rfl) ?_
      refine lv_aload_n hx hb d_Board_longestWayUp_76 rfl (lv_at hl 0 rfl) ?_
      refine g_getR (b := 13) C hP gl_Board_26 rfl rfl rfl d_Board_longestWayUp_77 ?_
      refine lv_iload hx hb d_Board_longestWayUp_80 (lv_at hl 4 rfl) ?_
      obtain ⟨q82, hq82, hM⟩ := gb_some hM
      refine g_backV (g_runV (As := [.int x4, .ref (ρ 13), .int x5]) C hP (c_Grid_join C.2.2.2.2.2.2.2.2.1 hq82) gi_Grid_join gm_Board_96 rfl rfl (by decide) (by decide) hl.1 rfl (Nat.le_of_ble_eq_true rfl) d_Board_longestWayUp_82) hS (fun H locs hP hS => ?_)
      exact t_Board_longestWayUp_b85 C hM hN hE0 ls H locs (lv_sub hl [0, 1, 2, 3, 4] rfl) hP hS
noncomputable def M_Board_longestWayUp_L48 : (Int32 × Int32 × Int32 × Int32 × gSt) → Option ((Int32 × Int32 × Int32 × Int32 × gSt) ⊕ ((Int32 × Int32 × gSt))) := fun x => M_Board_longestWayUp_b48 x.1 x.2.1 x.2.2.1 x.2.2.2.1 x.2.2.2.2
theorem t_Board_longestWayUp_L48 (C : gX "TermDesk$Board" prog_3_method_12_code 6 (some .int) 3 67 R cells slots cy D ρ A p s m args meth c) {x2 : Int32} {x3 : Int32} {x4 : Int32} {x5 : Int32} {u : gSt} {yy : (Int32 × Int32 × gSt)} (hL : gLp M_Board_longestWayUp_L48 (x2, x3, x4, x5, u) = some yy) (hE0 : (∀ y', yy = y' → gAt p l e R s m args below meth c Q H0 cells slots cy D ρ A 6 91 [(0, .ref (ρ 4)), (2, .int (y'.1)), (4, .int (y'.2.1))] [] (y'.2.2))) : gAt p l e R s m args below meth c Q H0 cells slots cy D ρ A 6 48 [(0, .ref (ρ 4)), (2, .int x2), (3, .int x3), (4, .int x4), (5, .int x5)] [] u :=
  g_loop (f := M_Board_longestWayUp_L48) (P := fun x => gAt p l e R s m args below meth c Q H0 cells slots cy D ρ A 6 48 [(0, .ref (ρ 4)), (2, .int x.1), (3, .int x.2.1), (4, .int x.2.2.1), (5, .int x.2.2.2.1)] [] x.2.2.2.2) (E := fun yy => (∀ y', yy = y' → gAt p l e R s m args below meth c Q H0 cells slots cy D ρ A 6 91 [(0, .ref (ρ 4)), (2, .int (y'.1)), (4, .int (y'.2.1))] [] (y'.2.2))) (fun x z hf hN hE => t_Board_longestWayUp_b48 C hf (fun x2' x3' x4' x5' u' h => hN (x2', x3', x4', x5', u') h) (fun x2' x4' u' h => (hE _ h) (x2', x4', u') rfl)) hL hE0
noncomputable def M_Board_longestWayUp_b18 (x2 : Int32) (u : gSt) : Option ((Int32 × gSt) ⊕ ((gSt) ⊕ (Int32 × gSt))) :=
  if (200 : Int32) ≤ x2 then
    (some (.inr (.inl u)))
  else
    ((M_Grid_emptyRow 25 (x2 - x2 / (2 : Int32) * (2 : Int32)) u).bind fun q42 =>
    (gLp M_Board_longestWayUp_L48 (x2, (x2 - (1 : Int32)) - (x2 - (1 : Int32)) / (2 : Int32) * (2 : Int32), x2 - x2 / (2 : Int32) * (2 : Int32), (0 : Int32), q42)).bind fun y48 =>
    (M_Grid_count 25 y48.2.1 y48.2.2).bind fun q97 =>
    if q97.1 = (0 : Int32) then
      (some (.inr (.inr (y48.1, q97.2))))
    else
      (some (.inl (y48.1 + (1 : Int32), q97.2))))
set_option maxHeartbeats 4000000 in
set_option maxRecDepth 100000 in
theorem t_Board_longestWayUp_b18 (C : gX "TermDesk$Board" prog_3_method_12_code 6 (some .int) 3 67 R cells slots cy D ρ A p s m args meth c) {x2 : Int32} {u : gSt} {z : (Int32 × gSt) ⊕ ((gSt) ⊕ (Int32 × gSt))} (hM : M_Board_longestWayUp_b18 x2 u = some z) (hN : ∀ x2' u', z = .inl (x2', u') → gAt p l e R s m args below meth c Q H0 cells slots cy D ρ A 6 18 [(0, .ref (ρ 4)), (2, .int (x2'))] [] (u')) (hE0 : ∀ u', z = .inr (.inl u') → gAt p l e R s m args below meth c Q H0 cells slots cy D ρ A 6 113 [] [] (u')) (hE1 : ∀ x2' u', z = .inr (.inr (x2', u')) → gAt p l e R s m args below meth c Q H0 cells slots cy D ρ A 6 103 [(2, .int (x2'))] [] (u')) : gAt p l e R s m args below meth c Q H0 cells slots cy D ρ A 6 18 [(0, .ref (ρ 4)), (2, .int x2)] [] u := by
  intro ls H locs hl hP hS
  have hx := C.1
  have hb := C.2.1
  unfold M_Board_longestWayUp_b18 at hM
  refine lv_iload_n hx hb d_Board_longestWayUp_18 rfl (lv_at hl 1 rfl) ?_
  refine lv_sipush (v := (200 : Int32)) hx hb d_Board_longestWayUp_19 (by decide) ?_
  refine lv_icmp_ge (tgt := 113) hx hb d_Board_longestWayUp_22 (by decide) (fun hc22 => ?_) (fun hc22 => ?_)
  · replace hM := gi_t hc22 hM
    exact hE0 _ (Option.some.inj hM).symm ls H locs (lv_sub hl [] rfl) hP hS
  · replace hM := gi_f hc22 hM
    refine lv_iload_n hx hb d_Board_longestWayUp_25 rfl (lv_at hl 1 rfl) ?_
    refine lv_iconst (v := (1 : Int32)) hx hb d_Board_longestWayUp_26 (by decide) ?_
    refine lv_isub hx hb d_Board_longestWayUp_27 ?_
    refine lv_iconst (v := (2 : Int32)) hx hb d_Board_longestWayUp_28 (by decide) ?_
    refine lv_irem hx hb d_Board_longestWayUp_29 (by decide) ?_
    refine lv_istore_n (lv' := [(3, .int ((x2 - (1 : Int32)) - (x2 - (1 : Int32)) / (2 : Int32) * (2 : Int32))), (0, .ref (ρ 4)), (2, .int x2)]) hx hb d_Board_longestWayUp_30 rfl hl (by decide) rfl (fun ls hl => ?_)
    refine lv_iload_n hx hb d_Board_longestWayUp_31 rfl (lv_at hl 2 rfl) ?_
    refine lv_iconst (v := (2 : Int32)) hx hb d_Board_longestWayUp_32 (by decide) ?_
    refine lv_irem hx hb d_Board_longestWayUp_33 (by decide) ?_
    refine lv_istore (lv' := [(4, .int (x2 - x2 / (2 : Int32) * (2 : Int32))), (3, .int ((x2 - (1 : Int32)) - (x2 - (1 : Int32)) / (2 : Int32) * (2 : Int32))), (0, .ref (ρ 4)), (2, .int x2)]) hx hb d_Board_longestWayUp_34 hl (by decide) rfl (fun ls hl => ?_)
    refine lv_aload_n hx hb d_Board_longestWayUp_36 rfl (lv_at hl 2 rfl) ?_
    refine g_getR (b := 25) C hP gl_Board_45 rfl rfl rfl d_Board_longestWayUp_37 ?_
    refine lv_iload hx hb d_Board_longestWayUp_40 (lv_at hl 0 rfl) ?_
    obtain ⟨q42, hq42, hM⟩ := gb_some hM
    refine g_backV (g_runV (As := [.int (x2 - x2 / (2 : Int32) * (2 : Int32))]) C hP (c_Grid_emptyRow C.2.2.2.2.2.2.2.2.1 hq42) gi_Grid_emptyRow gm_Board_93 rfl rfl (by decide) (by decide) hl.1 rfl (Nat.le_of_ble_eq_true rfl) d_Board_longestWayUp_42) hS (fun H locs hP hS => ?_)
    refine lv_iconst (v := (0 : Int32)) hx hb d_Board_longestWayUp_45 (by decide) ?_
    refine lv_istore (lv' := [(5, .int (0 : Int32)), (4, .int (x2 - x2 / (2 : Int32) * (2 : Int32))), (3, .int ((x2 - (1 : Int32)) - (x2 - (1 : Int32)) / (2 : Int32) * (2 : Int32))), (0, .ref (ρ 4)), (2, .int x2)]) hx hb d_Board_longestWayUp_46 hl (by decide) rfl (fun ls hl => ?_)
    obtain ⟨y48, hL48, hM⟩ := gb_some hM
    refine t_Board_longestWayUp_L48 C hL48 (fun y48_0 hy => ?_) ls H locs (lv_sub hl [3, 4, 2, 1, 0] rfl) hP hS
    · subst hy
      intro ls H locs hl hP hS
      refine lv_aload_n hx hb d_Board_longestWayUp_91 rfl (lv_at hl 0 rfl) ?_
      refine g_getR (b := 25) C hP gl_Board_45 rfl rfl rfl d_Board_longestWayUp_92 ?_
      refine lv_iload hx hb d_Board_longestWayUp_95 (lv_at hl 2 rfl) ?_
      obtain ⟨q97, hq97, hM⟩ := gb_some hM
      refine g_backI (g_runV (As := [.int y48.2.1]) C hP (c_Grid_count C.2.2.2.2.2.2.2.2.1 hq97) gi_Grid_count gm_Board_69 rfl rfl (by decide) (by decide) hl.1 rfl (Nat.le_of_ble_eq_true rfl) d_Board_longestWayUp_97) hS (fun H locs hP hS => ?_)
      refine lv_if_ne (tgt := 107) hx hb d_Board_longestWayUp_100 (by decide) (fun hc100 => ?_) (fun hc100 => ?_)
      · replace hM := gi_f hc100 hM
        refine lv_iinc (k := 1) (v := y48.1 + (1 : Int32)) (lv' := [(2, .int (y48.1 + (1 : Int32))), (0, .ref (ρ 4)), (4, .int y48.2.1)]) hx hb d_Board_longestWayUp_107 hl rfl (congrArg (fun z => y48.1 + z) (by decide)) (by decide) rfl (fun ls hl => ?_)
        refine lv_goto (tgt := 18) hx hb d_Board_longestWayUp_110 (by decide) ?_
        exact hN _ _ (Option.some.inj hM).symm ls H locs (lv_sub hl [1, 0] rfl) hP hS
      · replace hM := gi_t hc100 hM
        exact hE1 _ _ (Option.some.inj hM).symm ls H locs (lv_sub hl [1] rfl) hP hS
noncomputable def M_Board_longestWayUp_L18 : (Int32 × gSt) → Option ((Int32 × gSt) ⊕ ((gSt) ⊕ (Int32 × gSt))) := fun x => M_Board_longestWayUp_b18 x.1 x.2
theorem t_Board_longestWayUp_L18 (C : gX "TermDesk$Board" prog_3_method_12_code 6 (some .int) 3 67 R cells slots cy D ρ A p s m args meth c) {x2 : Int32} {u : gSt} {yy : (gSt) ⊕ (Int32 × gSt)} (hL : gLp M_Board_longestWayUp_L18 (x2, u) = some yy) (hE0 : (∀ y', yy = (.inl y') → gAt p l e R s m args below meth c Q H0 cells slots cy D ρ A 6 113 [] [] (y'))) (hE1 : (∀ y', yy = (.inr y') → gAt p l e R s m args below meth c Q H0 cells slots cy D ρ A 6 103 [(2, .int (y'.1))] [] (y'.2))) : gAt p l e R s m args below meth c Q H0 cells slots cy D ρ A 6 18 [(0, .ref (ρ 4)), (2, .int x2)] [] u :=
  g_loop (f := M_Board_longestWayUp_L18) (P := fun x => gAt p l e R s m args below meth c Q H0 cells slots cy D ρ A 6 18 [(0, .ref (ρ 4)), (2, .int x.1)] [] x.2) (E := fun yy => (∀ y', yy = (.inl y') → gAt p l e R s m args below meth c Q H0 cells slots cy D ρ A 6 113 [] [] (y')) ∧ (∀ y', yy = (.inr y') → gAt p l e R s m args below meth c Q H0 cells slots cy D ρ A 6 103 [(2, .int (y'.1))] [] (y'.2))) (fun x z hf hN hE => t_Board_longestWayUp_b18 C hf (fun x2' u' h => hN (x2', u') h) (fun u' h => (hE _ h).1 u' rfl) (fun x2' u' h => (hE _ h).2 (x2', u') rfl)) hL ⟨hE0, hE1⟩
noncomputable def M_Board_longestWayUp (x1 : Int32) (u : gSt) : Option ((Int32 × gSt)) :=
  (M_Grid_empty 25 u).bind fun q4 =>
  (M_Grid_put 25 (0 : Int32) x1 q4).bind fun q13 =>
  (gLp M_Board_longestWayUp_L18 ((1 : Int32), q13)).bind fun y18 =>
  (Sum.elim (fun y18_0 => some ((199 : Int32), y18_0)) (fun y18_1 => some (y18_1.1 - (1 : Int32), y18_1.2))) y18
set_option maxHeartbeats 4000000 in
set_option maxRecDepth 100000 in
theorem t_Board_longestWayUp (C : gX "TermDesk$Board" prog_3_method_12_code 6 (some .int) 3 67 R cells slots cy D ρ A p s m args meth c) {x1 : Int32} {u : gSt} {z : (Int32 × gSt)} (hM : M_Board_longestWayUp x1 u = some z) (hR : gRtI p l e R s m args below meth c Q H0 cells slots cy D ρ A prog_3_method_12_code z.1 z.2) : gAt p l e R s m args below meth c Q H0 cells slots cy D ρ A 6 0 [(0, .ref (ρ 4)), (1, .int x1)] [] u := by
  intro ls H locs hl hP hS
  have hx := C.1
  have hb := C.2.1
  unfold M_Board_longestWayUp at hM
  refine lv_aload_n hx hb d_Board_longestWayUp_0 rfl (lv_at hl 0 rfl) ?_
  refine g_getR (b := 25) C hP gl_Board_45 rfl rfl rfl d_Board_longestWayUp_1 ?_
  obtain ⟨q4, hq4, hM⟩ := gb_some hM
  refine g_backV (g_runV (As := []) C hP (c_Grid_empty C.2.2.2.2.2.2.2.2.1 hq4) gi_Grid_empty gm_Board_86 rfl rfl (by decide) (by decide) hl.1 rfl (Nat.le_of_ble_eq_true rfl) d_Board_longestWayUp_4) hS (fun H locs hP hS => ?_)
  refine lv_aload_n hx hb d_Board_longestWayUp_7 rfl (lv_at hl 0 rfl) ?_
  refine g_getR (b := 25) C hP gl_Board_45 rfl rfl rfl d_Board_longestWayUp_8 ?_
  refine lv_iconst (v := (0 : Int32)) hx hb d_Board_longestWayUp_11 (by decide) ?_
  refine lv_iload_n hx hb d_Board_longestWayUp_12 rfl (lv_at hl 1 rfl) ?_
  obtain ⟨q13, hq13, hM⟩ := gb_some hM
  refine g_backV (g_runV (As := [.int (0 : Int32), .int x1]) C hP (c_Grid_put C.2.2.2.2.2.2.2.2.1 hq13) gi_Grid_put gm_Board_89 rfl rfl (by decide) (by decide) hl.1 rfl (Nat.le_of_ble_eq_true rfl) d_Board_longestWayUp_13) hS (fun H locs hP hS => ?_)
  refine lv_iconst (v := (1 : Int32)) hx hb d_Board_longestWayUp_16 (by decide) ?_
  refine lv_istore_n (lv' := [(2, .int (1 : Int32)), (0, .ref (ρ 4)), (1, .int x1)]) hx hb d_Board_longestWayUp_17 rfl hl (by decide) rfl (fun ls hl => ?_)
  obtain ⟨y18, hL18, hM⟩ := gb_some hM
  refine t_Board_longestWayUp_L18 C hL18 (fun y18_0 hy => ?_) (fun y18_1 hy => ?_) ls H locs (lv_sub hl [1, 0] rfl) hP hS
  · subst hy
    replace hM := gs_l hM
    intro ls H locs hl hP hS
    refine lv_sipush (v := (199 : Int32)) hx hb d_Board_longestWayUp_113 (by decide) ?_
    obtain rfl := Option.some.inj hM
    exact hR _ ls H locs d_Board_longestWayUp_116 hP hS
  · subst hy
    replace hM := gs_r hM
    intro ls H locs hl hP hS
    refine lv_iload_n hx hb d_Board_longestWayUp_103 rfl (lv_at hl 0 rfl) ?_
    refine lv_iconst (v := (1 : Int32)) hx hb d_Board_longestWayUp_104 (by decide) ?_
    refine lv_isub hx hb d_Board_longestWayUp_105 ?_
    obtain rfl := Option.some.inj hM
    exact hR _ ls H locs d_Board_longestWayUp_106 hP hS
theorem c_Board_longestWayUp {l : Launch} {cy : Nat → ClassId} {D : va_G} {ρ : Nat → Nat} {A : Nat → Prop} (hD : gD ρ A) {x1 : Int32} {u : gSt} {z : (Int32 × gSt)} (hM : M_Board_longestWayUp x1 u = some z) : gCtI l y_Board_longestWayUp prog_3_method_12_code 6 (some .int) 3 67 cy D ρ A [.ref (ρ 4), .int x1] u z.1 z.2 :=
  g_met (by decide) hD (Nat.le_of_ble_eq_true rfl) (fun p e s m below meth c ls X hl hP => t_Board_longestWayUp X hM (fun pc ls H locs hd hP hS => g_iret X hP hS hd) ls _ [] hl hP va_S.rf)
end
section
variable {p : Program} {l : Launch} {e : Env} {R : Room} {s : State} {m : MethodId} {args : Array Value} {below : List Frame} {meth : Method} {c : Code} {Q : State → Prop} {H0 : Heap} {cells slots : Nat} {cy : Nat → ClassId} {D : va_G} {ρ : Nat → Nat} {A : Nat → Prop}
def y_Board_hasGene : MethodName := ⟨"TermDesk$Board", "hasGene", "(I)Z"⟩
theorem gi_Board_hasGene : gMi y_Board_hasGene prog_3_method_4_code 2 (some .boolean) 1 3 := ⟨(gWs_at 827 (by decide +kernel) (by decide +kernel)), (gWs_at 826 (by decide +kernel) (by decide +kernel)), (gWs_at 43 (by decide +kernel) (by decide +kernel)), (gWs_at 120 (by decide +kernel) (by decide +kernel)), ⟨by decide +kernel, by decide +kernel, by decide +kernel⟩, _, _, rfl⟩
theorem gm_Desk_157 : gMk "TermDesk" 157 y_Board_hasGene := Or.inr ⟨"TermDesk", gNs_at 824 (by decide +kernel) (by decide +kernel)⟩
theorem d_Board_hasGene_0 : decode prog_3_method_4_code 0 = .ok (.iload_n 1, 1) := by decide +kernel
theorem d_Board_hasGene_1 : decode prog_3_method_4_code 1 = .ok (.ifCond .lt 15, 3) := by decide +kernel
theorem d_Board_hasGene_4 : decode prog_3_method_4_code 4 = .ok (.iload_n 1, 1) := by decide +kernel
theorem d_Board_hasGene_5 : decode prog_3_method_4_code 5 = .ok (.aload_n 0, 1) := by decide +kernel
theorem d_Board_hasGene_6 : decode prog_3_method_4_code 6 = .ok (.invokevirtual 61, 3) := by decide +kernel
theorem d_Board_hasGene_9 : decode prog_3_method_4_code 9 = .ok (.if_icmp .ge 7, 3) := by decide +kernel
theorem d_Board_hasGene_12 : decode prog_3_method_4_code 12 = .ok (.iconst 1, 1) := by decide +kernel
theorem d_Board_hasGene_13 : decode prog_3_method_4_code 13 = .ok (.goto 4, 3) := by decide +kernel
theorem d_Board_hasGene_16 : decode prog_3_method_4_code 16 = .ok (.iconst 0, 1) := by decide +kernel
theorem d_Board_hasGene_17 : decode prog_3_method_4_code 17 = .ok (.ireturn, 1) := by decide +kernel
noncomputable def M_Board_hasGene_b17 (s0 : Int32) (u : gSt) : Option ((Int32 × gSt)) :=
  gc (gZ s0) <| some (s0, u)
set_option maxHeartbeats 4000000 in
set_option maxRecDepth 100000 in
theorem t_Board_hasGene_b17 (C : gX "TermDesk$Board" prog_3_method_4_code 2 (some .boolean) 1 20 R cells slots cy D ρ A p s m args meth c) {s0 : Int32} {u : gSt} {z : (Int32 × gSt)} (hM : M_Board_hasGene_b17 s0 u = some z) (hR : gRtZ p l e R s m args below meth c Q H0 cells slots cy D ρ A prog_3_method_4_code z.1 z.2) : gAt p l e R s m args below meth c Q H0 cells slots cy D ρ A 2 17 [] [.int s0] u := by
  intro ls H locs hl hP hS
  have hx := C.1
  have hb := C.2.1
  unfold M_Board_hasGene_b17 at hM
  obtain ⟨hz17, hM⟩ := gc_some hM
  obtain rfl := Option.some.inj hM
  exact hR _ ls H locs hz17 d_Board_hasGene_17 hP hS
noncomputable def M_Board_hasGene_b16 (u : gSt) : Option ((Int32 × gSt)) :=
  M_Board_hasGene_b17 (0 : Int32) u
set_option maxHeartbeats 4000000 in
set_option maxRecDepth 100000 in
theorem t_Board_hasGene_b16 (C : gX "TermDesk$Board" prog_3_method_4_code 2 (some .boolean) 1 20 R cells slots cy D ρ A p s m args meth c) {u : gSt} {z : (Int32 × gSt)} (hM : M_Board_hasGene_b16 u = some z) (hR : gRtZ p l e R s m args below meth c Q H0 cells slots cy D ρ A prog_3_method_4_code z.1 z.2) : gAt p l e R s m args below meth c Q H0 cells slots cy D ρ A 2 16 [] [] u := by
  intro ls H locs hl hP hS
  have hx := C.1
  have hb := C.2.1
  unfold M_Board_hasGene_b16 at hM
  refine lv_iconst (v := (0 : Int32)) hx hb d_Board_hasGene_16 (by decide) ?_
  exact t_Board_hasGene_b17 C hM hR ls H locs (lv_sub hl [] rfl) hP hS
noncomputable def M_Board_hasGene (x1 : Int32) (u : gSt) : Option ((Int32 × gSt)) :=
  if x1 < (0 : Int32) then
    (M_Board_hasGene_b16 u)
  else
    ((M_Board_genes u).bind fun q6 =>
    if q6.1 ≤ x1 then
      (M_Board_hasGene_b16 q6.2)
    else
      (M_Board_hasGene_b17 (1 : Int32) q6.2))
set_option maxHeartbeats 4000000 in
set_option maxRecDepth 100000 in
theorem t_Board_hasGene (C : gX "TermDesk$Board" prog_3_method_4_code 2 (some .boolean) 1 20 R cells slots cy D ρ A p s m args meth c) {x1 : Int32} {u : gSt} {z : (Int32 × gSt)} (hM : M_Board_hasGene x1 u = some z) (hR : gRtZ p l e R s m args below meth c Q H0 cells slots cy D ρ A prog_3_method_4_code z.1 z.2) : gAt p l e R s m args below meth c Q H0 cells slots cy D ρ A 2 0 [(0, .ref (ρ 4)), (1, .int x1)] [] u := by
  intro ls H locs hl hP hS
  have hx := C.1
  have hb := C.2.1
  unfold M_Board_hasGene at hM
  refine lv_iload_n hx hb d_Board_hasGene_0 rfl (lv_at hl 1 rfl) ?_
  refine lv_if_lt (tgt := 16) hx hb d_Board_hasGene_1 (by decide) (fun hc1 => ?_) (fun hc1 => ?_)
  · replace hM := gi_t hc1 hM
    exact t_Board_hasGene_b16 C hM hR ls H locs (lv_sub hl [] rfl) hP hS
  · replace hM := gi_f hc1 hM
    refine lv_iload_n hx hb d_Board_hasGene_4 rfl (lv_at hl 1 rfl) ?_
    refine lv_aload_n hx hb d_Board_hasGene_5 rfl (lv_at hl 0 rfl) ?_
    obtain ⟨q6, hq6, hM⟩ := gb_some hM
    refine g_backI (g_runV (As := []) C hP (c_Board_genes C.2.2.2.2.2.2.2.2.1 hq6) gi_Board_genes gm_Board_61 rfl rfl (by decide) (by decide) hl.1 rfl (Nat.le_of_ble_eq_true rfl) d_Board_hasGene_6) hS (fun H locs hP hS => ?_)
    refine lv_icmp_ge (tgt := 16) hx hb d_Board_hasGene_9 (by decide) (fun hc9 => ?_) (fun hc9 => ?_)
    · replace hM := gi_t hc9 hM
      exact t_Board_hasGene_b16 C hM hR ls H locs (lv_sub hl [] rfl) hP hS
    · replace hM := gi_f hc9 hM
      refine lv_iconst (v := (1 : Int32)) hx hb d_Board_hasGene_12 (by decide) ?_
      refine lv_goto (tgt := 17) hx hb d_Board_hasGene_13 (by decide) ?_
      exact t_Board_hasGene_b17 C hM hR ls H locs (lv_sub hl [] rfl) hP hS
theorem c_Board_hasGene {l : Launch} {cy : Nat → ClassId} {D : va_G} {ρ : Nat → Nat} {A : Nat → Prop} (hD : gD ρ A) {x1 : Int32} {u : gSt} {z : (Int32 × gSt)} (hM : M_Board_hasGene x1 u = some z) : gCtI l y_Board_hasGene prog_3_method_4_code 2 (some .boolean) 1 20 cy D ρ A [.ref (ρ 4), .int x1] u z.1 z.2 :=
  g_met (by decide) hD (Nat.le_of_ble_eq_true rfl) (fun p e s m below meth c ls X hl hP => t_Board_hasGene X hM (fun pc ls H locs hz hd hP hS => g_zret X hP hS hz hd) ls _ [] hl hP va_S.rf)
end
section
variable {p : Program} {l : Launch} {e : Env} {R : Room} {s : State} {m : MethodId} {args : Array Value} {below : List Frame} {meth : Method} {c : Code} {Q : State → Prop} {H0 : Heap} {cells slots : Nat} {cy : Nat → ClassId} {D : va_G} {ρ : Nat → Nat} {A : Nat → Prop}
def y_Board_empty : MethodName := ⟨"TermDesk$Board", "empty", "()V"⟩
theorem gi_Board_empty : gMi y_Board_empty prog_3_method_21_code 1 none 0 3 := ⟨(gWs_at 608 (by decide +kernel) (by decide +kernel)), (gWs_at 607 (by decide +kernel) (by decide +kernel)), (gWs_at 28 (by decide +kernel) (by decide +kernel)), (gWs_at 120 (by decide +kernel) (by decide +kernel)), ⟨by decide +kernel, by decide +kernel, by decide +kernel⟩, _, _, rfl⟩
theorem gm_Desk_242 : gMk "TermDesk" 242 y_Board_empty := Or.inr ⟨"TermDesk", gNs_at 605 (by decide +kernel) (by decide +kernel)⟩
theorem d_Board_empty_0 : decode prog_3_method_21_code 0 = .ok (.aload_n 0, 1) := by decide +kernel
theorem d_Board_empty_1 : decode prog_3_method_21_code 1 = .ok (.getfield 14, 3) := by decide +kernel
theorem d_Board_empty_4 : decode prog_3_method_21_code 4 = .ok (.iconst 0, 1) := by decide +kernel
theorem d_Board_empty_5 : decode prog_3_method_21_code 5 = .ok (.putfield 58, 3) := by decide +kernel
theorem d_Board_empty_8 : decode prog_3_method_21_code 8 = .ok (.aload_n 0, 1) := by decide +kernel
theorem d_Board_empty_9 : decode prog_3_method_21_code 9 = .ok (.getfield 20, 3) := by decide +kernel
theorem d_Board_empty_12 : decode prog_3_method_21_code 12 = .ok (.iconst 0, 1) := by decide +kernel
theorem d_Board_empty_13 : decode prog_3_method_21_code 13 = .ok (.putfield 58, 3) := by decide +kernel
theorem d_Board_empty_16 : decode prog_3_method_21_code 16 = .ok (.aload_n 0, 1) := by decide +kernel
theorem d_Board_empty_17 : decode prog_3_method_21_code 17 = .ok (.getfield 26, 3) := by decide +kernel
theorem d_Board_empty_20 : decode prog_3_method_21_code 20 = .ok (.invokevirtual 86, 3) := by decide +kernel
theorem d_Board_empty_23 : decode prog_3_method_21_code 23 = .ok (.aload_n 0, 1) := by decide +kernel
theorem d_Board_empty_24 : decode prog_3_method_21_code 24 = .ok (.getfield 30, 3) := by decide +kernel
theorem d_Board_empty_27 : decode prog_3_method_21_code 27 = .ok (.invokevirtual 86, 3) := by decide +kernel
theorem d_Board_empty_30 : decode prog_3_method_21_code 30 = .ok (.aload_n 0, 1) := by decide +kernel
theorem d_Board_empty_31 : decode prog_3_method_21_code 31 = .ok (.getfield 33, 3) := by decide +kernel
theorem d_Board_empty_34 : decode prog_3_method_21_code 34 = .ok (.invokevirtual 86, 3) := by decide +kernel
theorem d_Board_empty_37 : decode prog_3_method_21_code 37 = .ok (.aload_n 0, 1) := by decide +kernel
theorem d_Board_empty_38 : decode prog_3_method_21_code 38 = .ok (.getfield 36, 3) := by decide +kernel
theorem d_Board_empty_41 : decode prog_3_method_21_code 41 = .ok (.invokevirtual 86, 3) := by decide +kernel
theorem d_Board_empty_44 : decode prog_3_method_21_code 44 = .ok (.aload_n 0, 1) := by decide +kernel
theorem d_Board_empty_45 : decode prog_3_method_21_code 45 = .ok (.getfield 39, 3) := by decide +kernel
theorem d_Board_empty_48 : decode prog_3_method_21_code 48 = .ok (.invokevirtual 86, 3) := by decide +kernel
theorem d_Board_empty_51 : decode prog_3_method_21_code 51 = .ok (.aload_n 0, 1) := by decide +kernel
theorem d_Board_empty_52 : decode prog_3_method_21_code 52 = .ok (.getfield 42, 3) := by decide +kernel
theorem d_Board_empty_55 : decode prog_3_method_21_code 55 = .ok (.invokevirtual 86, 3) := by decide +kernel
theorem d_Board_empty_58 : decode prog_3_method_21_code 58 = .ok (.aload_n 0, 1) := by decide +kernel
theorem d_Board_empty_59 : decode prog_3_method_21_code 59 = .ok (.iconst 0, 1) := by decide +kernel
theorem d_Board_empty_60 : decode prog_3_method_21_code 60 = .ok (.putfield 48, 3) := by decide +kernel
theorem d_Board_empty_63 : decode prog_3_method_21_code 63 = .ok (.aload_n 0, 1) := by decide +kernel
theorem d_Board_empty_64 : decode prog_3_method_21_code 64 = .ok (.iconst 0, 1) := by decide +kernel
theorem d_Board_empty_65 : decode prog_3_method_21_code 65 = .ok (.putfield 52, 3) := by decide +kernel
theorem d_Board_empty_68 : decode prog_3_method_21_code 68 = .ok (.aload_n 0, 1) := by decide +kernel
theorem d_Board_empty_69 : decode prog_3_method_21_code 69 = .ok (.iconst 0, 1) := by decide +kernel
theorem d_Board_empty_70 : decode prog_3_method_21_code 70 = .ok (.putfield 55, 3) := by decide +kernel
theorem d_Board_empty_73 : decode prog_3_method_21_code 73 = .ok (.return_, 1) := by decide +kernel
noncomputable def M_Board_empty (u : gSt) : Option (gSt) :=
  (some (gsF u 5 3 (0 : Int32))).bind fun u5 =>
  (some (gsF u5 9 3 (0 : Int32))).bind fun u13 =>
  (M_Grid_empty 13 u13).bind fun q20 =>
  (M_Grid_empty 15 q20).bind fun q27 =>
  (M_Grid_empty 17 q27).bind fun q34 =>
  (M_Grid_empty 19 q34).bind fun q41 =>
  (M_Grid_empty 21 q41).bind fun q48 =>
  (M_Grid_empty 23 q48).bind fun q55 =>
  (some (gsF q55 4 9 (0 : Int32))).bind fun u60 =>
  (some (gsF u60 4 10 (0 : Int32))).bind fun u65 =>
  (some (gsF u65 4 11 (0 : Int32))).bind fun u70 =>
  some u70
set_option maxHeartbeats 4000000 in
set_option maxRecDepth 100000 in
theorem t_Board_empty (C : gX "TermDesk$Board" prog_3_method_21_code 1 none 2 44 R cells slots cy D ρ A p s m args meth c) {u : gSt} {z : gSt} (hM : M_Board_empty u = some z) (hR : gRtV p l e R s m args below meth c Q H0 cells slots cy D ρ A prog_3_method_21_code z) : gAt p l e R s m args below meth c Q H0 cells slots cy D ρ A 1 0 [(0, .ref (ρ 4))] [] u := by
  intro ls H locs hl hP hS
  have hx := C.1
  have hb := C.2.1
  unfold M_Board_empty at hM
  refine lv_aload_n hx hb d_Board_empty_0 rfl (lv_at hl 0 rfl) ?_
  refine g_getR (b := 5) C hP gl_Board_14 rfl rfl rfl d_Board_empty_1 ?_
  refine lv_iconst (v := (0 : Int32)) hx hb d_Board_empty_4 (by decide) ?_
  obtain ⟨u5, e5, hM⟩ := gb_some hM
  refine g_putI C hP hS gl_Board_58 rfl rfl gq_4_3 d_Board_empty_5 (fun H locs hP hS => ?_)
  rw [Option.some.inj e5] at hP
  refine lv_aload_n hx hb d_Board_empty_8 rfl (lv_at hl 0 rfl) ?_
  refine g_getR (b := 9) C hP gl_Board_20 rfl rfl rfl d_Board_empty_9 ?_
  refine lv_iconst (v := (0 : Int32)) hx hb d_Board_empty_12 (by decide) ?_
  obtain ⟨u13, e13, hM⟩ := gb_some hM
  refine g_putI C hP hS gl_Board_58 rfl rfl gq_4_3 d_Board_empty_13 (fun H locs hP hS => ?_)
  rw [Option.some.inj e13] at hP
  refine lv_aload_n hx hb d_Board_empty_16 rfl (lv_at hl 0 rfl) ?_
  refine g_getR (b := 13) C hP gl_Board_26 rfl rfl rfl d_Board_empty_17 ?_
  obtain ⟨q20, hq20, hM⟩ := gb_some hM
  refine g_backV (g_runV (As := []) C hP (c_Grid_empty C.2.2.2.2.2.2.2.2.1 hq20) gi_Grid_empty gm_Board_86 rfl rfl (by decide) (by decide) hl.1 rfl (Nat.le_of_ble_eq_true rfl) d_Board_empty_20) hS (fun H locs hP hS => ?_)
  refine lv_aload_n hx hb d_Board_empty_23 rfl (lv_at hl 0 rfl) ?_
  refine g_getR (b := 15) C hP gl_Board_30 rfl rfl rfl d_Board_empty_24 ?_
  obtain ⟨q27, hq27, hM⟩ := gb_some hM
  refine g_backV (g_runV (As := []) C hP (c_Grid_empty C.2.2.2.2.2.2.2.2.1 hq27) gi_Grid_empty gm_Board_86 rfl rfl (by decide) (by decide) hl.1 rfl (Nat.le_of_ble_eq_true rfl) d_Board_empty_27) hS (fun H locs hP hS => ?_)
  refine lv_aload_n hx hb d_Board_empty_30 rfl (lv_at hl 0 rfl) ?_
  refine g_getR (b := 17) C hP gl_Board_33 rfl rfl rfl d_Board_empty_31 ?_
  obtain ⟨q34, hq34, hM⟩ := gb_some hM
  refine g_backV (g_runV (As := []) C hP (c_Grid_empty C.2.2.2.2.2.2.2.2.1 hq34) gi_Grid_empty gm_Board_86 rfl rfl (by decide) (by decide) hl.1 rfl (Nat.le_of_ble_eq_true rfl) d_Board_empty_34) hS (fun H locs hP hS => ?_)
  refine lv_aload_n hx hb d_Board_empty_37 rfl (lv_at hl 0 rfl) ?_
  refine g_getR (b := 19) C hP gl_Board_36 rfl rfl rfl d_Board_empty_38 ?_
  obtain ⟨q41, hq41, hM⟩ := gb_some hM
  refine g_backV (g_runV (As := []) C hP (c_Grid_empty C.2.2.2.2.2.2.2.2.1 hq41) gi_Grid_empty gm_Board_86 rfl rfl (by decide) (by decide) hl.1 rfl (Nat.le_of_ble_eq_true rfl) d_Board_empty_41) hS (fun H locs hP hS => ?_)
  refine lv_aload_n hx hb d_Board_empty_44 rfl (lv_at hl 0 rfl) ?_
  refine g_getR (b := 21) C hP gl_Board_39 rfl rfl rfl d_Board_empty_45 ?_
  obtain ⟨q48, hq48, hM⟩ := gb_some hM
  refine g_backV (g_runV (As := []) C hP (c_Grid_empty C.2.2.2.2.2.2.2.2.1 hq48) gi_Grid_empty gm_Board_86 rfl rfl (by decide) (by decide) hl.1 rfl (Nat.le_of_ble_eq_true rfl) d_Board_empty_48) hS (fun H locs hP hS => ?_)
  refine lv_aload_n hx hb d_Board_empty_51 rfl (lv_at hl 0 rfl) ?_
  refine g_getR (b := 23) C hP gl_Board_42 rfl rfl rfl d_Board_empty_52 ?_
  obtain ⟨q55, hq55, hM⟩ := gb_some hM
  refine g_backV (g_runV (As := []) C hP (c_Grid_empty C.2.2.2.2.2.2.2.2.1 hq55) gi_Grid_empty gm_Board_86 rfl rfl (by decide) (by decide) hl.1 rfl (Nat.le_of_ble_eq_true rfl) d_Board_empty_55) hS (fun H locs hP hS => ?_)
  refine lv_aload_n hx hb d_Board_empty_58 rfl (lv_at hl 0 rfl) ?_
  refine lv_iconst (v := (0 : Int32)) hx hb d_Board_empty_59 (by decide) ?_
  obtain ⟨u60, e60, hM⟩ := gb_some hM
  refine g_putI C hP hS gl_Board_48 rfl rfl gq_3_9 d_Board_empty_60 (fun H locs hP hS => ?_)
  rw [Option.some.inj e60] at hP
  refine lv_aload_n hx hb d_Board_empty_63 rfl (lv_at hl 0 rfl) ?_
  refine lv_iconst (v := (0 : Int32)) hx hb d_Board_empty_64 (by decide) ?_
  obtain ⟨u65, e65, hM⟩ := gb_some hM
  refine g_putI C hP hS gl_Board_52 rfl rfl gq_3_10 d_Board_empty_65 (fun H locs hP hS => ?_)
  rw [Option.some.inj e65] at hP
  refine lv_aload_n hx hb d_Board_empty_68 rfl (lv_at hl 0 rfl) ?_
  refine lv_iconst (v := (0 : Int32)) hx hb d_Board_empty_69 (by decide) ?_
  obtain ⟨u70, e70, hM⟩ := gb_some hM
  refine g_putI C hP hS gl_Board_55 rfl rfl gq_3_11 d_Board_empty_70 (fun H locs hP hS => ?_)
  rw [Option.some.inj e70] at hP
  obtain rfl := Option.some.inj hM
  exact hR _ ls H locs d_Board_empty_73 hP hS
theorem c_Board_empty {l : Launch} {cy : Nat → ClassId} {D : va_G} {ρ : Nat → Nat} {A : Nat → Prop} (hD : gD ρ A) {u : gSt} {z : gSt} (hM : M_Board_empty u = some z) : gCtV l y_Board_empty prog_3_method_21_code 1 none 2 44 cy D ρ A [.ref (ρ 4)] u z :=
  g_met (by decide) hD (Nat.le_of_ble_eq_true rfl) (fun p e s m below meth c ls X hl hP => t_Board_empty X hM (fun pc ls H locs hd hP hS => g_vret X hP hS hd) ls _ [] hl hP va_S.rf)
end
section
variable {p : Program} {l : Launch} {e : Env} {R : Room} {s : State} {m : MethodId} {args : Array Value} {below : List Frame} {meth : Method} {c : Code} {Q : State → Prop} {H0 : Heap} {cells slots : Nat} {cy : Nat → ClassId} {D : va_G} {ρ : Nat → Nat} {A : Nat → Prop}
def y_Board_isSameOrAbove : MethodName := ⟨"TermDesk$Board", "isSameOrAbove", "(II)Z"⟩
theorem gi_Board_isSameOrAbove : gMi y_Board_isSameOrAbove prog_3_method_13_code 3 (some .boolean) 2 3 := ⟨(gWs_at 528 (by decide +kernel) (by decide +kernel)), (gWs_at 527 (by decide +kernel) (by decide +kernel)), (gWs_at 13 (by decide +kernel) (by decide +kernel)), (gWs_at 120 (by decide +kernel) (by decide +kernel)), ⟨by decide +kernel, by decide +kernel, by decide +kernel⟩, _, _, rfl⟩
theorem gm_Clerk_132 : gMk "TermDesk$Clerk" 132 y_Board_isSameOrAbove := Or.inr ⟨"TermDesk", gNs_at 525 (by decide +kernel) (by decide +kernel)⟩
theorem gm_Board_108 : gMk "TermDesk$Board" 108 y_Board_isSameOrAbove := Or.inl (gWs_at 579 (by decide +kernel) (by decide +kernel))
theorem d_Board_isSameOrAbove_0 : decode prog_3_method_13_code 0 = .ok (.iload_n 1, 1) := by decide +kernel
theorem d_Board_isSameOrAbove_1 : decode prog_3_method_13_code 1 = .ok (.iload_n 2, 1) := by decide +kernel
theorem d_Board_isSameOrAbove_2 : decode prog_3_method_13_code 2 = .ok (.if_icmp .eq 15, 3) := by decide +kernel
theorem d_Board_isSameOrAbove_5 : decode prog_3_method_13_code 5 = .ok (.aload_n 0, 1) := by decide +kernel
theorem d_Board_isSameOrAbove_6 : decode prog_3_method_13_code 6 = .ok (.getfield 30, 3) := by decide +kernel
theorem d_Board_isSameOrAbove_9 : decode prog_3_method_13_code 9 = .ok (.iload_n 2, 1) := by decide +kernel
theorem d_Board_isSameOrAbove_10 : decode prog_3_method_13_code 10 = .ok (.iload_n 1, 1) := by decide +kernel
theorem d_Board_isSameOrAbove_11 : decode prog_3_method_13_code 11 = .ok (.invokevirtual 65, 3) := by decide +kernel
theorem d_Board_isSameOrAbove_14 : decode prog_3_method_13_code 14 = .ok (.ifCond .eq 7, 3) := by decide +kernel
theorem d_Board_isSameOrAbove_17 : decode prog_3_method_13_code 17 = .ok (.iconst 1, 1) := by decide +kernel
theorem d_Board_isSameOrAbove_18 : decode prog_3_method_13_code 18 = .ok (.goto 4, 3) := by decide +kernel
theorem d_Board_isSameOrAbove_21 : decode prog_3_method_13_code 21 = .ok (.iconst 0, 1) := by decide +kernel
theorem d_Board_isSameOrAbove_22 : decode prog_3_method_13_code 22 = .ok (.ireturn, 1) := by decide +kernel
noncomputable def M_Board_isSameOrAbove_b22 (s0 : Int32) (u : gSt) : Option ((Int32 × gSt)) :=
  gc (gZ s0) <| some (s0, u)
set_option maxHeartbeats 4000000 in
set_option maxRecDepth 100000 in
theorem t_Board_isSameOrAbove_b22 (C : gX "TermDesk$Board" prog_3_method_13_code 3 (some .boolean) 1 22 R cells slots cy D ρ A p s m args meth c) {s0 : Int32} {u : gSt} {z : (Int32 × gSt)} (hM : M_Board_isSameOrAbove_b22 s0 u = some z) (hR : gRtZ p l e R s m args below meth c Q H0 cells slots cy D ρ A prog_3_method_13_code z.1 z.2) : gAt p l e R s m args below meth c Q H0 cells slots cy D ρ A 3 22 [] [.int s0] u := by
  intro ls H locs hl hP hS
  have hx := C.1
  have hb := C.2.1
  unfold M_Board_isSameOrAbove_b22 at hM
  obtain ⟨hz22, hM⟩ := gc_some hM
  obtain rfl := Option.some.inj hM
  exact hR _ ls H locs hz22 d_Board_isSameOrAbove_22 hP hS
noncomputable def M_Board_isSameOrAbove_b17 (u : gSt) : Option ((Int32 × gSt)) :=
  M_Board_isSameOrAbove_b22 (1 : Int32) u
set_option maxHeartbeats 4000000 in
set_option maxRecDepth 100000 in
theorem t_Board_isSameOrAbove_b17 (C : gX "TermDesk$Board" prog_3_method_13_code 3 (some .boolean) 1 22 R cells slots cy D ρ A p s m args meth c) {u : gSt} {z : (Int32 × gSt)} (hM : M_Board_isSameOrAbove_b17 u = some z) (hR : gRtZ p l e R s m args below meth c Q H0 cells slots cy D ρ A prog_3_method_13_code z.1 z.2) : gAt p l e R s m args below meth c Q H0 cells slots cy D ρ A 3 17 [] [] u := by
  intro ls H locs hl hP hS
  have hx := C.1
  have hb := C.2.1
  unfold M_Board_isSameOrAbove_b17 at hM
  refine lv_iconst (v := (1 : Int32)) hx hb d_Board_isSameOrAbove_17 (by decide) ?_
  refine lv_goto (tgt := 22) hx hb d_Board_isSameOrAbove_18 (by decide) ?_
  exact t_Board_isSameOrAbove_b22 C hM hR ls H locs (lv_sub hl [] rfl) hP hS
noncomputable def M_Board_isSameOrAbove (x1 : Int32) (x2 : Int32) (u : gSt) : Option ((Int32 × gSt)) :=
  if x1 = x2 then
    (M_Board_isSameOrAbove_b17 u)
  else
    ((M_Grid_has 15 x2 x1 u).bind fun q11 =>
    if q11.1 = (0 : Int32) then
      (M_Board_isSameOrAbove_b22 (0 : Int32) q11.2)
    else
      (M_Board_isSameOrAbove_b17 q11.2))
set_option maxHeartbeats 4000000 in
set_option maxRecDepth 100000 in
theorem t_Board_isSameOrAbove (C : gX "TermDesk$Board" prog_3_method_13_code 3 (some .boolean) 1 22 R cells slots cy D ρ A p s m args meth c) {x1 : Int32} {x2 : Int32} {u : gSt} {z : (Int32 × gSt)} (hM : M_Board_isSameOrAbove x1 x2 u = some z) (hR : gRtZ p l e R s m args below meth c Q H0 cells slots cy D ρ A prog_3_method_13_code z.1 z.2) : gAt p l e R s m args below meth c Q H0 cells slots cy D ρ A 3 0 [(0, .ref (ρ 4)), (1, .int x1), (2, .int x2)] [] u := by
  intro ls H locs hl hP hS
  have hx := C.1
  have hb := C.2.1
  unfold M_Board_isSameOrAbove at hM
  refine lv_iload_n hx hb d_Board_isSameOrAbove_0 rfl (lv_at hl 1 rfl) ?_
  refine lv_iload_n hx hb d_Board_isSameOrAbove_1 rfl (lv_at hl 2 rfl) ?_
  refine lv_icmp_eq (tgt := 17) hx hb d_Board_isSameOrAbove_2 (by decide) (fun hc2 => ?_) (fun hc2 => ?_)
  · replace hM := gi_t hc2 hM
    exact t_Board_isSameOrAbove_b17 C hM hR ls H locs (lv_sub hl [] rfl) hP hS
  · replace hM := gi_f hc2 hM
    refine lv_aload_n hx hb d_Board_isSameOrAbove_5 rfl (lv_at hl 0 rfl) ?_
    refine g_getR (b := 15) C hP gl_Board_30 rfl rfl rfl d_Board_isSameOrAbove_6 ?_
    refine lv_iload_n hx hb d_Board_isSameOrAbove_9 rfl (lv_at hl 2 rfl) ?_
    refine lv_iload_n hx hb d_Board_isSameOrAbove_10 rfl (lv_at hl 1 rfl) ?_
    obtain ⟨q11, hq11, hM⟩ := gb_some hM
    refine g_backI (g_runV (As := [.int x2, .int x1]) C hP (c_Grid_has C.2.2.2.2.2.2.2.2.1 hq11) gi_Grid_has gm_Board_65 rfl rfl (by decide) (by decide) hl.1 rfl (Nat.le_of_ble_eq_true rfl) d_Board_isSameOrAbove_11) hS (fun H locs hP hS => ?_)
    refine lv_if_eq (tgt := 21) hx hb d_Board_isSameOrAbove_14 (by decide) (fun hc14 => ?_) (fun hc14 => ?_)
    · replace hM := gi_t hc14 hM
      refine lv_iconst (v := (0 : Int32)) hx hb d_Board_isSameOrAbove_21 (by decide) ?_
      exact t_Board_isSameOrAbove_b22 C hM hR ls H locs (lv_sub hl [] rfl) hP hS
    · replace hM := gi_f hc14 hM
      exact t_Board_isSameOrAbove_b17 C hM hR ls H locs (lv_sub hl [] rfl) hP hS
theorem c_Board_isSameOrAbove {l : Launch} {cy : Nat → ClassId} {D : va_G} {ρ : Nat → Nat} {A : Nat → Prop} (hD : gD ρ A) {x1 : Int32} {x2 : Int32} {u : gSt} {z : (Int32 × gSt)} (hM : M_Board_isSameOrAbove x1 x2 u = some z) : gCtI l y_Board_isSameOrAbove prog_3_method_13_code 3 (some .boolean) 1 22 cy D ρ A [.ref (ρ 4), .int x1, .int x2] u z.1 z.2 :=
  g_met (by decide) hD (Nat.le_of_ble_eq_true rfl) (fun p e s m below meth c ls X hl hP => t_Board_isSameOrAbove X hM (fun pc ls H locs hz hd hP hS => g_zret X hP hS hz hd) ls _ [] hl hP va_S.rf)
end
section
variable {p : Program} {l : Launch} {e : Env} {R : Room} {s : State} {m : MethodId} {args : Array Value} {below : List Frame} {meth : Method} {c : Code} {Q : State → Prop} {H0 : Heap} {cells slots : Nat} {cy : Nat → ClassId} {D : va_G} {ρ : Nat → Nat} {A : Nat → Prop}
def y_Board_canAddTerm : MethodName := ⟨"TermDesk$Board", "canAddTerm", "()Z"⟩
theorem gi_Board_canAddTerm : gMi y_Board_canAddTerm prog_3_method_14_code 1 (some .boolean) 0 3 := ⟨(gWs_at 552 (by decide +kernel) (by decide +kernel)), (gWs_at 551 (by decide +kernel) (by decide +kernel)), (gWs_at 17 (by decide +kernel) (by decide +kernel)), (gWs_at 120 (by decide +kernel) (by decide +kernel)), ⟨by decide +kernel, by decide +kernel, by decide +kernel⟩, _, _, rfl⟩
theorem gm_Clerk_148 : gMk "TermDesk$Clerk" 148 y_Board_canAddTerm := Or.inr ⟨"TermDesk", gNs_at 549 (by decide +kernel) (by decide +kernel)⟩
theorem d_Board_canAddTerm_0 : decode prog_3_method_14_code 0 = .ok (.aload_n 0, 1) := by decide +kernel
theorem d_Board_canAddTerm_1 : decode prog_3_method_14_code 1 = .ok (.getfield 48, 3) := by decide +kernel
theorem d_Board_canAddTerm_4 : decode prog_3_method_14_code 4 = .ok (.sipush 200, 3) := by decide +kernel
theorem d_Board_canAddTerm_7 : decode prog_3_method_14_code 7 = .ok (.if_icmp .ge 17, 3) := by decide +kernel
theorem d_Board_canAddTerm_10 : decode prog_3_method_14_code 10 = .ok (.aload_n 0, 1) := by decide +kernel
theorem d_Board_canAddTerm_11 : decode prog_3_method_14_code 11 = .ok (.getfield 14, 3) := by decide +kernel
theorem d_Board_canAddTerm_14 : decode prog_3_method_14_code 14 = .ok (.invokevirtual 100, 3) := by decide +kernel
theorem d_Board_canAddTerm_17 : decode prog_3_method_14_code 17 = .ok (.ifCond .ne 7, 3) := by decide +kernel
theorem d_Board_canAddTerm_20 : decode prog_3_method_14_code 20 = .ok (.iconst 1, 1) := by decide +kernel
theorem d_Board_canAddTerm_21 : decode prog_3_method_14_code 21 = .ok (.goto 4, 3) := by decide +kernel
theorem d_Board_canAddTerm_24 : decode prog_3_method_14_code 24 = .ok (.iconst 0, 1) := by decide +kernel
theorem d_Board_canAddTerm_25 : decode prog_3_method_14_code 25 = .ok (.ireturn, 1) := by decide +kernel
noncomputable def M_Board_canAddTerm_b25 (s0 : Int32) (u : gSt) : Option ((Int32 × gSt)) :=
  gc (gZ s0) <| some (s0, u)
set_option maxHeartbeats 4000000 in
set_option maxRecDepth 100000 in
theorem t_Board_canAddTerm_b25 (C : gX "TermDesk$Board" prog_3_method_14_code 1 (some .boolean) 1 20 R cells slots cy D ρ A p s m args meth c) {s0 : Int32} {u : gSt} {z : (Int32 × gSt)} (hM : M_Board_canAddTerm_b25 s0 u = some z) (hR : gRtZ p l e R s m args below meth c Q H0 cells slots cy D ρ A prog_3_method_14_code z.1 z.2) : gAt p l e R s m args below meth c Q H0 cells slots cy D ρ A 1 25 [] [.int s0] u := by
  intro ls H locs hl hP hS
  have hx := C.1
  have hb := C.2.1
  unfold M_Board_canAddTerm_b25 at hM
  obtain ⟨hz25, hM⟩ := gc_some hM
  obtain rfl := Option.some.inj hM
  exact hR _ ls H locs hz25 d_Board_canAddTerm_25 hP hS
noncomputable def M_Board_canAddTerm_b24 (u : gSt) : Option ((Int32 × gSt)) :=
  M_Board_canAddTerm_b25 (0 : Int32) u
set_option maxHeartbeats 4000000 in
set_option maxRecDepth 100000 in
theorem t_Board_canAddTerm_b24 (C : gX "TermDesk$Board" prog_3_method_14_code 1 (some .boolean) 1 20 R cells slots cy D ρ A p s m args meth c) {u : gSt} {z : (Int32 × gSt)} (hM : M_Board_canAddTerm_b24 u = some z) (hR : gRtZ p l e R s m args below meth c Q H0 cells slots cy D ρ A prog_3_method_14_code z.1 z.2) : gAt p l e R s m args below meth c Q H0 cells slots cy D ρ A 1 24 [] [] u := by
  intro ls H locs hl hP hS
  have hx := C.1
  have hb := C.2.1
  unfold M_Board_canAddTerm_b24 at hM
  refine lv_iconst (v := (0 : Int32)) hx hb d_Board_canAddTerm_24 (by decide) ?_
  exact t_Board_canAddTerm_b25 C hM hR ls H locs (lv_sub hl [] rfl) hP hS
noncomputable def M_Board_canAddTerm (u : gSt) : Option ((Int32 × gSt)) :=
  if (200 : Int32) ≤ (u.1 4 9) then
    (M_Board_canAddTerm_b24 u)
  else
    ((M_NameList_isFull 5 u).bind fun q14 =>
    if q14.1 = (0 : Int32) then
      (M_Board_canAddTerm_b25 (1 : Int32) q14.2)
    else
      (M_Board_canAddTerm_b24 q14.2))
set_option maxHeartbeats 4000000 in
set_option maxRecDepth 100000 in
theorem t_Board_canAddTerm (C : gX "TermDesk$Board" prog_3_method_14_code 1 (some .boolean) 1 20 R cells slots cy D ρ A p s m args meth c) {u : gSt} {z : (Int32 × gSt)} (hM : M_Board_canAddTerm u = some z) (hR : gRtZ p l e R s m args below meth c Q H0 cells slots cy D ρ A prog_3_method_14_code z.1 z.2) : gAt p l e R s m args below meth c Q H0 cells slots cy D ρ A 1 0 [(0, .ref (ρ 4))] [] u := by
  intro ls H locs hl hP hS
  have hx := C.1
  have hb := C.2.1
  unfold M_Board_canAddTerm at hM
  refine lv_aload_n hx hb d_Board_canAddTerm_0 rfl (lv_at hl 0 rfl) ?_
  refine g_getI C hP gl_Board_48 rfl rfl d_Board_canAddTerm_1 ?_
  refine lv_sipush (v := (200 : Int32)) hx hb d_Board_canAddTerm_4 (by decide) ?_
  refine lv_icmp_ge (tgt := 24) hx hb d_Board_canAddTerm_7 (by decide) (fun hc7 => ?_) (fun hc7 => ?_)
  · replace hM := gi_t hc7 hM
    exact t_Board_canAddTerm_b24 C hM hR ls H locs (lv_sub hl [] rfl) hP hS
  · replace hM := gi_f hc7 hM
    refine lv_aload_n hx hb d_Board_canAddTerm_10 rfl (lv_at hl 0 rfl) ?_
    refine g_getR (b := 5) C hP gl_Board_14 rfl rfl rfl d_Board_canAddTerm_11 ?_
    obtain ⟨q14, hq14, hM⟩ := gb_some hM
    refine g_backI (g_runV (As := []) C hP (c_NameList_isFull C.2.2.2.2.2.2.2.2.1 hq14) gi_NameList_isFull gm_Board_100 rfl rfl (by decide) (by decide) hl.1 rfl (Nat.le_of_ble_eq_true rfl) d_Board_canAddTerm_14) hS (fun H locs hP hS => ?_)
    refine lv_if_ne (tgt := 24) hx hb d_Board_canAddTerm_17 (by decide) (fun hc17 => ?_) (fun hc17 => ?_)
    · replace hM := gi_f hc17 hM
      exact t_Board_canAddTerm_b24 C hM hR ls H locs (lv_sub hl [] rfl) hP hS
    · replace hM := gi_t hc17 hM
      refine lv_iconst (v := (1 : Int32)) hx hb d_Board_canAddTerm_20 (by decide) ?_
      refine lv_goto (tgt := 25) hx hb d_Board_canAddTerm_21 (by decide) ?_
      exact t_Board_canAddTerm_b25 C hM hR ls H locs (lv_sub hl [] rfl) hP hS
theorem c_Board_canAddTerm {l : Launch} {cy : Nat → ClassId} {D : va_G} {ρ : Nat → Nat} {A : Nat → Prop} (hD : gD ρ A) {u : gSt} {z : (Int32 × gSt)} (hM : M_Board_canAddTerm u = some z) : gCtI l y_Board_canAddTerm prog_3_method_14_code 1 (some .boolean) 1 20 cy D ρ A [.ref (ρ 4)] u z.1 z.2 :=
  g_met (by decide) hD (Nat.le_of_ble_eq_true rfl) (fun p e s m below meth c ls X hl hP => t_Board_canAddTerm X hM (fun pc ls H locs hz hd hP hS => g_zret X hP hS hz hd) ls _ [] hl hP va_S.rf)
end
section
variable {p : Program} {l : Launch} {e : Env} {R : Room} {s : State} {m : MethodId} {args : Array Value} {below : List Frame} {meth : Method} {c : Code} {Q : State → Prop} {H0 : Heap} {cells slots : Nat} {cy : Nat → ClassId} {D : va_G} {ρ : Nat → Nat} {A : Nat → Prop}
def y_Board_addTerm : MethodName := ⟨"TermDesk$Board", "addTerm", "(JJ)V"⟩
theorem gi_Board_addTerm : gMi y_Board_addTerm prog_3_method_15_code 5 none 2 3 := ⟨(gWs_at 560 (by decide +kernel) (by decide +kernel)), (gWs_at 559 (by decide +kernel) (by decide +kernel)), (gWs_at 19 (by decide +kernel) (by decide +kernel)), (gWs_at 120 (by decide +kernel) (by decide +kernel)), ⟨by decide +kernel, by decide +kernel, by decide +kernel⟩, _, _, rfl⟩
theorem gm_Clerk_151 : gMk "TermDesk$Clerk" 151 y_Board_addTerm := Or.inr ⟨"TermDesk", gNs_at 557 (by decide +kernel) (by decide +kernel)⟩
theorem d_Board_addTerm_0 : decode prog_3_method_15_code 0 = .ok (.aload_n 0, 1) := by decide +kernel
theorem d_Board_addTerm_1 : decode prog_3_method_15_code 1 = .ok (.getfield 14, 3) := by decide +kernel
theorem d_Board_addTerm_4 : decode prog_3_method_15_code 4 = .ok (.lload_n 1, 1) := by decide +kernel
theorem d_Board_addTerm_5 : decode prog_3_method_15_code 5 = .ok (.lload_n 3, 1) := by decide +kernel
theorem d_Board_addTerm_6 : decode prog_3_method_15_code 6 = .ok (.aload_n 0, 1) := by decide +kernel
theorem d_Board_addTerm_7 : decode prog_3_method_15_code 7 = .ok (.getfield 48, 3) := by decide +kernel
theorem d_Board_addTerm_10 : decode prog_3_method_15_code 10 = .ok (.invokevirtual 104, 3) := by decide +kernel
theorem d_Board_addTerm_13 : decode prog_3_method_15_code 13 = .ok (.aload_n 0, 1) := by decide +kernel
theorem d_Board_addTerm_14 : decode prog_3_method_15_code 14 = .ok (.dup, 1) := by decide +kernel
theorem d_Board_addTerm_15 : decode prog_3_method_15_code 15 = .ok (.getfield 48, 3) := by decide +kernel
theorem d_Board_addTerm_18 : decode prog_3_method_15_code 18 = .ok (.iconst 1, 1) := by decide +kernel
theorem d_Board_addTerm_19 : decode prog_3_method_15_code 19 = .ok (.iadd, 1) := by decide +kernel
theorem d_Board_addTerm_20 : decode prog_3_method_15_code 20 = .ok (.putfield 48, 3) := by decide +kernel
theorem d_Board_addTerm_23 : decode prog_3_method_15_code 23 = .ok (.return_, 1) := by decide +kernel
noncomputable def M_Board_addTerm (y1 : Int64) (y3 : Int64) (u : gSt) : Option (gSt) :=
  (M_NameList_add 5 y1 y3 (u.1 4 9) u).bind fun q10 =>
  (some (gsF q10 4 9 ((q10.1 4 9) + (1 : Int32)))).bind fun u20 =>
  some u20
set_option maxHeartbeats 4000000 in
set_option maxRecDepth 100000 in
theorem t_Board_addTerm (C : gX "TermDesk$Board" prog_3_method_15_code 5 none 1 25 R cells slots cy D ρ A p s m args meth c) {y1 : Int64} {y3 : Int64} {u : gSt} {z : gSt} (hM : M_Board_addTerm y1 y3 u = some z) (hR : gRtV p l e R s m args below meth c Q H0 cells slots cy D ρ A prog_3_method_15_code z) : gAt p l e R s m args below meth c Q H0 cells slots cy D ρ A 5 0 [(0, .ref (ρ 4)), (1, .long y1), (3, .long y3)] [] u := by
  intro ls H locs hl hP hS
  have hx := C.1
  have hb := C.2.1
  unfold M_Board_addTerm at hM
  refine lv_aload_n hx hb d_Board_addTerm_0 rfl (lv_at hl 0 rfl) ?_
  refine g_getR (b := 5) C hP gl_Board_14 rfl rfl rfl d_Board_addTerm_1 ?_
  refine lv_lload_n hx hb d_Board_addTerm_4 rfl (lv_at hl 1 rfl) ?_
  refine lv_lload_n hx hb d_Board_addTerm_5 rfl (lv_at hl 2 rfl) ?_
  refine lv_aload_n hx hb d_Board_addTerm_6 rfl (lv_at hl 0 rfl) ?_
  refine g_getI C hP gl_Board_48 rfl rfl d_Board_addTerm_7 ?_
  obtain ⟨q10, hq10, hM⟩ := gb_some hM
  refine g_backV (g_runV (As := [.long y1, .long y3, .int (u.1 4 9)]) C hP (c_NameList_add C.2.2.2.2.2.2.2.2.1 hq10) gi_NameList_add gm_Board_104 rfl rfl (by decide) (by decide) hl.1 rfl (Nat.le_of_ble_eq_true rfl) d_Board_addTerm_10) hS (fun H locs hP hS => ?_)
  refine lv_aload_n hx hb d_Board_addTerm_13 rfl (lv_at hl 0 rfl) ?_
  refine lv_dup hx hb d_Board_addTerm_14 rfl ?_
  refine g_getI C hP gl_Board_48 rfl rfl d_Board_addTerm_15 ?_
  refine lv_iconst (v := (1 : Int32)) hx hb d_Board_addTerm_18 (by decide) ?_
  refine lv_iadd hx hb d_Board_addTerm_19 ?_
  obtain ⟨u20, e20, hM⟩ := gb_some hM
  refine g_putI C hP hS gl_Board_48 rfl rfl gq_3_9 d_Board_addTerm_20 (fun H locs hP hS => ?_)
  rw [Option.some.inj e20] at hP
  obtain rfl := Option.some.inj hM
  exact hR _ ls H locs d_Board_addTerm_23 hP hS
theorem c_Board_addTerm {l : Launch} {cy : Nat → ClassId} {D : va_G} {ρ : Nat → Nat} {A : Nat → Prop} (hD : gD ρ A) {y1 : Int64} {y3 : Int64} {u : gSt} {z : gSt} (hM : M_Board_addTerm y1 y3 u = some z) : gCtV l y_Board_addTerm prog_3_method_15_code 5 none 1 25 cy D ρ A [.ref (ρ 4), .long y1, .long y3] u z :=
  g_met (by decide) hD (Nat.le_of_ble_eq_true rfl) (fun p e s m below meth c ls X hl hP => t_Board_addTerm X hM (fun pc ls H locs hd hP hS => g_vret X hP hS hd) ls _ [] hl hP va_S.rf)
end
section
variable {p : Program} {l : Launch} {e : Env} {R : Room} {s : State} {m : MethodId} {args : Array Value} {below : List Frame} {meth : Method} {c : Code} {Q : State → Prop} {H0 : Heap} {cells slots : Nat} {cy : Nat → ClassId} {D : va_G} {ρ : Nat → Nat} {A : Nat → Prop}
def y_Board_addGene : MethodName := ⟨"TermDesk$Board", "addGene", "(JJ)V"⟩
theorem gi_Board_addGene : gMi y_Board_addGene prog_3_method_16_code 5 none 2 3 := ⟨(gWs_at 588 (by decide +kernel) (by decide +kernel)), (gWs_at 587 (by decide +kernel) (by decide +kernel)), (gWs_at 25 (by decide +kernel) (by decide +kernel)), (gWs_at 120 (by decide +kernel) (by decide +kernel)), ⟨by decide +kernel, by decide +kernel, by decide +kernel⟩, _, _, rfl⟩
theorem gm_Clerk_178 : gMk "TermDesk$Clerk" 178 y_Board_addGene := Or.inr ⟨"TermDesk", gNs_at 585 (by decide +kernel) (by decide +kernel)⟩
theorem d_Board_addGene_0 : decode prog_3_method_16_code 0 = .ok (.aload_n 0, 1) := by decide +kernel
theorem d_Board_addGene_1 : decode prog_3_method_16_code 1 = .ok (.getfield 20, 3) := by decide +kernel
theorem d_Board_addGene_4 : decode prog_3_method_16_code 4 = .ok (.lload_n 1, 1) := by decide +kernel
theorem d_Board_addGene_5 : decode prog_3_method_16_code 5 = .ok (.lload_n 3, 1) := by decide +kernel
theorem d_Board_addGene_6 : decode prog_3_method_16_code 6 = .ok (.aload_n 0, 1) := by decide +kernel
theorem d_Board_addGene_7 : decode prog_3_method_16_code 7 = .ok (.getfield 20, 3) := by decide +kernel
theorem d_Board_addGene_10 : decode prog_3_method_16_code 10 = .ok (.getfield 58, 3) := by decide +kernel
theorem d_Board_addGene_13 : decode prog_3_method_16_code 13 = .ok (.invokevirtual 104, 3) := by decide +kernel
theorem d_Board_addGene_16 : decode prog_3_method_16_code 16 = .ok (.return_, 1) := by decide +kernel
noncomputable def M_Board_addGene (y1 : Int64) (y3 : Int64) (u : gSt) : Option (gSt) :=
  (M_NameList_add 9 y1 y3 (u.1 9 3) u).bind fun q13 =>
  some q13
set_option maxHeartbeats 4000000 in
set_option maxRecDepth 100000 in
theorem t_Board_addGene (C : gX "TermDesk$Board" prog_3_method_16_code 5 none 1 25 R cells slots cy D ρ A p s m args meth c) {y1 : Int64} {y3 : Int64} {u : gSt} {z : gSt} (hM : M_Board_addGene y1 y3 u = some z) (hR : gRtV p l e R s m args below meth c Q H0 cells slots cy D ρ A prog_3_method_16_code z) : gAt p l e R s m args below meth c Q H0 cells slots cy D ρ A 5 0 [(0, .ref (ρ 4)), (1, .long y1), (3, .long y3)] [] u := by
  intro ls H locs hl hP hS
  have hx := C.1
  have hb := C.2.1
  unfold M_Board_addGene at hM
  refine lv_aload_n hx hb d_Board_addGene_0 rfl (lv_at hl 0 rfl) ?_
  refine g_getR (b := 9) C hP gl_Board_20 rfl rfl rfl d_Board_addGene_1 ?_
  refine lv_lload_n hx hb d_Board_addGene_4 rfl (lv_at hl 1 rfl) ?_
  refine lv_lload_n hx hb d_Board_addGene_5 rfl (lv_at hl 2 rfl) ?_
  refine lv_aload_n hx hb d_Board_addGene_6 rfl (lv_at hl 0 rfl) ?_
  refine g_getR (b := 9) C hP gl_Board_20 rfl rfl rfl d_Board_addGene_7 ?_
  refine g_getI C hP gl_Board_58 rfl rfl d_Board_addGene_10 ?_
  obtain ⟨q13, hq13, hM⟩ := gb_some hM
  refine g_backV (g_runV (As := [.long y1, .long y3, .int (u.1 9 3)]) C hP (c_NameList_add C.2.2.2.2.2.2.2.2.1 hq13) gi_NameList_add gm_Board_104 rfl rfl (by decide) (by decide) hl.1 rfl (Nat.le_of_ble_eq_true rfl) d_Board_addGene_13) hS (fun H locs hP hS => ?_)
  obtain rfl := Option.some.inj hM
  exact hR _ ls H locs d_Board_addGene_16 hP hS
theorem c_Board_addGene {l : Launch} {cy : Nat → ClassId} {D : va_G} {ρ : Nat → Nat} {A : Nat → Prop} (hD : gD ρ A) {y1 : Int64} {y3 : Int64} {u : gSt} {z : gSt} (hM : M_Board_addGene y1 y3 u = some z) : gCtV l y_Board_addGene prog_3_method_16_code 5 none 1 25 cy D ρ A [.ref (ρ 4), .long y1, .long y3] u z :=
  g_met (by decide) hD (Nat.le_of_ble_eq_true rfl) (fun p e s m below meth c ls X hl hP => t_Board_addGene X hM (fun pc ls H locs hd hP hS => g_vret X hP hS hd) ls _ [] hl hP va_S.rf)
end
section
variable {p : Program} {l : Launch} {e : Env} {R : Room} {s : State} {m : MethodId} {args : Array Value} {below : List Frame} {meth : Method} {c : Code} {Q : State → Prop} {H0 : Heap} {cells slots : Nat} {cy : Nat → ClassId} {D : va_G} {ρ : Nat → Nat} {A : Nat → Prop}
def y_Board_canLink : MethodName := ⟨"TermDesk$Board", "canLink", "(II)Z"⟩
theorem gi_Board_canLink : gMi y_Board_canLink prog_3_method_17_code 3 (some .boolean) 2 3 := ⟨(gWs_at 570 (by decide +kernel) (by decide +kernel)), (gWs_at 569 (by decide +kernel) (by decide +kernel)), (gWs_at 21 (by decide +kernel) (by decide +kernel)), (gWs_at 120 (by decide +kernel) (by decide +kernel)), ⟨by decide +kernel, by decide +kernel, by decide +kernel⟩, _, _, rfl⟩
theorem gm_Clerk_162 : gMk "TermDesk$Clerk" 162 y_Board_canLink := Or.inr ⟨"TermDesk", gNs_at 567 (by decide +kernel) (by decide +kernel)⟩
theorem d_Board_canLink_0 : decode prog_3_method_17_code 0 = .ok (.aload_n 0, 1) := by decide +kernel
theorem d_Board_canLink_1 : decode prog_3_method_17_code 1 = .ok (.getfield 52, 3) := by decide +kernel
theorem d_Board_canLink_4 : decode prog_3_method_17_code 4 = .ok (.sipush 600, 3) := by decide +kernel
theorem d_Board_canLink_7 : decode prog_3_method_17_code 7 = .ok (.if_icmp .lt 15, 3) := by decide +kernel
theorem d_Board_canLink_10 : decode prog_3_method_17_code 10 = .ok (.aload_n 0, 1) := by decide +kernel
theorem d_Board_canLink_11 : decode prog_3_method_17_code 11 = .ok (.getfield 26, 3) := by decide +kernel
theorem d_Board_canLink_14 : decode prog_3_method_17_code 14 = .ok (.iload_n 1, 1) := by decide +kernel
theorem d_Board_canLink_15 : decode prog_3_method_17_code 15 = .ok (.iload_n 2, 1) := by decide +kernel
theorem d_Board_canLink_16 : decode prog_3_method_17_code 16 = .ok (.invokevirtual 65, 3) := by decide +kernel
theorem d_Board_canLink_19 : decode prog_3_method_17_code 19 = .ok (.ifCond .eq 7, 3) := by decide +kernel
theorem d_Board_canLink_22 : decode prog_3_method_17_code 22 = .ok (.iconst 1, 1) := by decide +kernel
theorem d_Board_canLink_23 : decode prog_3_method_17_code 23 = .ok (.goto 4, 3) := by decide +kernel
theorem d_Board_canLink_26 : decode prog_3_method_17_code 26 = .ok (.iconst 0, 1) := by decide +kernel
theorem d_Board_canLink_27 : decode prog_3_method_17_code 27 = .ok (.ireturn, 1) := by decide +kernel
noncomputable def M_Board_canLink_b27 (s0 : Int32) (u : gSt) : Option ((Int32 × gSt)) :=
  gc (gZ s0) <| some (s0, u)
set_option maxHeartbeats 4000000 in
set_option maxRecDepth 100000 in
theorem t_Board_canLink_b27 (C : gX "TermDesk$Board" prog_3_method_17_code 3 (some .boolean) 1 22 R cells slots cy D ρ A p s m args meth c) {s0 : Int32} {u : gSt} {z : (Int32 × gSt)} (hM : M_Board_canLink_b27 s0 u = some z) (hR : gRtZ p l e R s m args below meth c Q H0 cells slots cy D ρ A prog_3_method_17_code z.1 z.2) : gAt p l e R s m args below meth c Q H0 cells slots cy D ρ A 3 27 [] [.int s0] u := by
  intro ls H locs hl hP hS
  have hx := C.1
  have hb := C.2.1
  unfold M_Board_canLink_b27 at hM
  obtain ⟨hz27, hM⟩ := gc_some hM
  obtain rfl := Option.some.inj hM
  exact hR _ ls H locs hz27 d_Board_canLink_27 hP hS
noncomputable def M_Board_canLink_b22 (u : gSt) : Option ((Int32 × gSt)) :=
  M_Board_canLink_b27 (1 : Int32) u
set_option maxHeartbeats 4000000 in
set_option maxRecDepth 100000 in
theorem t_Board_canLink_b22 (C : gX "TermDesk$Board" prog_3_method_17_code 3 (some .boolean) 1 22 R cells slots cy D ρ A p s m args meth c) {u : gSt} {z : (Int32 × gSt)} (hM : M_Board_canLink_b22 u = some z) (hR : gRtZ p l e R s m args below meth c Q H0 cells slots cy D ρ A prog_3_method_17_code z.1 z.2) : gAt p l e R s m args below meth c Q H0 cells slots cy D ρ A 3 22 [] [] u := by
  intro ls H locs hl hP hS
  have hx := C.1
  have hb := C.2.1
  unfold M_Board_canLink_b22 at hM
  refine lv_iconst (v := (1 : Int32)) hx hb d_Board_canLink_22 (by decide) ?_
  refine lv_goto (tgt := 27) hx hb d_Board_canLink_23 (by decide) ?_
  exact t_Board_canLink_b27 C hM hR ls H locs (lv_sub hl [] rfl) hP hS
noncomputable def M_Board_canLink (x1 : Int32) (x2 : Int32) (u : gSt) : Option ((Int32 × gSt)) :=
  if (u.1 4 10) < (600 : Int32) then
    (M_Board_canLink_b22 u)
  else
    ((M_Grid_has 13 x1 x2 u).bind fun q16 =>
    if q16.1 = (0 : Int32) then
      (M_Board_canLink_b27 (0 : Int32) q16.2)
    else
      (M_Board_canLink_b22 q16.2))
set_option maxHeartbeats 4000000 in
set_option maxRecDepth 100000 in
theorem t_Board_canLink (C : gX "TermDesk$Board" prog_3_method_17_code 3 (some .boolean) 1 22 R cells slots cy D ρ A p s m args meth c) {x1 : Int32} {x2 : Int32} {u : gSt} {z : (Int32 × gSt)} (hM : M_Board_canLink x1 x2 u = some z) (hR : gRtZ p l e R s m args below meth c Q H0 cells slots cy D ρ A prog_3_method_17_code z.1 z.2) : gAt p l e R s m args below meth c Q H0 cells slots cy D ρ A 3 0 [(0, .ref (ρ 4)), (1, .int x1), (2, .int x2)] [] u := by
  intro ls H locs hl hP hS
  have hx := C.1
  have hb := C.2.1
  unfold M_Board_canLink at hM
  refine lv_aload_n hx hb d_Board_canLink_0 rfl (lv_at hl 0 rfl) ?_
  refine g_getI C hP gl_Board_52 rfl rfl d_Board_canLink_1 ?_
  refine lv_sipush (v := (600 : Int32)) hx hb d_Board_canLink_4 (by decide) ?_
  refine lv_icmp_lt (tgt := 22) hx hb d_Board_canLink_7 (by decide) (fun hc7 => ?_) (fun hc7 => ?_)
  · replace hM := gi_t hc7 hM
    exact t_Board_canLink_b22 C hM hR ls H locs (lv_sub hl [] rfl) hP hS
  · replace hM := gi_f hc7 hM
    refine lv_aload_n hx hb d_Board_canLink_10 rfl (lv_at hl 0 rfl) ?_
    refine g_getR (b := 13) C hP gl_Board_26 rfl rfl rfl d_Board_canLink_11 ?_
    refine lv_iload_n hx hb d_Board_canLink_14 rfl (lv_at hl 1 rfl) ?_
    refine lv_iload_n hx hb d_Board_canLink_15 rfl (lv_at hl 2 rfl) ?_
    obtain ⟨q16, hq16, hM⟩ := gb_some hM
    refine g_backI (g_runV (As := [.int x1, .int x2]) C hP (c_Grid_has C.2.2.2.2.2.2.2.2.1 hq16) gi_Grid_has gm_Board_65 rfl rfl (by decide) (by decide) hl.1 rfl (Nat.le_of_ble_eq_true rfl) d_Board_canLink_16) hS (fun H locs hP hS => ?_)
    refine lv_if_eq (tgt := 26) hx hb d_Board_canLink_19 (by decide) (fun hc19 => ?_) (fun hc19 => ?_)
    · replace hM := gi_t hc19 hM
      refine lv_iconst (v := (0 : Int32)) hx hb d_Board_canLink_26 (by decide) ?_
      exact t_Board_canLink_b27 C hM hR ls H locs (lv_sub hl [] rfl) hP hS
    · replace hM := gi_f hc19 hM
      exact t_Board_canLink_b22 C hM hR ls H locs (lv_sub hl [] rfl) hP hS
theorem c_Board_canLink {l : Launch} {cy : Nat → ClassId} {D : va_G} {ρ : Nat → Nat} {A : Nat → Prop} (hD : gD ρ A) {x1 : Int32} {x2 : Int32} {u : gSt} {z : (Int32 × gSt)} (hM : M_Board_canLink x1 x2 u = some z) : gCtI l y_Board_canLink prog_3_method_17_code 3 (some .boolean) 1 22 cy D ρ A [.ref (ρ 4), .int x1, .int x2] u z.1 z.2 :=
  g_met (by decide) hD (Nat.le_of_ble_eq_true rfl) (fun p e s m below meth c ls X hl hP => t_Board_canLink X hM (fun pc ls H locs hz hd hP hS => g_zret X hP hS hz hd) ls _ [] hl hP va_S.rf)
end
section
variable {p : Program} {l : Launch} {e : Env} {R : Room} {s : State} {m : MethodId} {args : Array Value} {below : List Frame} {meth : Method} {c : Code} {Q : State → Prop} {H0 : Heap} {cells slots : Nat} {cy : Nat → ClassId} {D : va_G} {ρ : Nat → Nat} {A : Nat → Prop}
def y_Board_link : MethodName := ⟨"TermDesk$Board", "link", "(II)V"⟩
theorem gi_Board_link : gMi y_Board_link prog_3_method_18_code 4 none 2 3 := ⟨(gWs_at 574 (by decide +kernel) (by decide +kernel)), (gWs_at 573 (by decide +kernel) (by decide +kernel)), (gWs_at 22 (by decide +kernel) (by decide +kernel)), (gWs_at 120 (by decide +kernel) (by decide +kernel)), ⟨by decide +kernel, by decide +kernel, by decide +kernel⟩, _, _, rfl⟩
theorem gm_Clerk_165 : gMk "TermDesk$Clerk" 165 y_Board_link := Or.inr ⟨"TermDesk", gNs_at 571 (by decide +kernel) (by decide +kernel)⟩
theorem d_Board_link_0 : decode prog_3_method_18_code 0 = .ok (.aload_n 0, 1) := by decide +kernel
theorem d_Board_link_1 : decode prog_3_method_18_code 1 = .ok (.getfield 26, 3) := by decide +kernel
theorem d_Board_link_4 : decode prog_3_method_18_code 4 = .ok (.iload_n 1, 1) := by decide +kernel
theorem d_Board_link_5 : decode prog_3_method_18_code 5 = .ok (.iload_n 2, 1) := by decide +kernel
theorem d_Board_link_6 : decode prog_3_method_18_code 6 = .ok (.invokevirtual 65, 3) := by decide +kernel
theorem d_Board_link_9 : decode prog_3_method_18_code 9 = .ok (.ifCond .eq 4, 3) := by decide +kernel
theorem d_Board_link_12 : decode prog_3_method_18_code 12 = .ok (.return_, 1) := by decide +kernel
theorem d_Board_link_13 : decode prog_3_method_18_code 13 = .ok (.aload_n 0, 1) := by decide +kernel
theorem d_Board_link_14 : decode prog_3_method_18_code 14 = .ok (.getfield 26, 3) := by decide +kernel
theorem d_Board_link_17 : decode prog_3_method_18_code 17 = .ok (.iload_n 1, 1) := by decide +kernel
theorem d_Board_link_18 : decode prog_3_method_18_code 18 = .ok (.iload_n 2, 1) := by decide +kernel
theorem d_Board_link_19 : decode prog_3_method_18_code 19 = .ok (.invokevirtual 89, 3) := by decide +kernel
theorem d_Board_link_22 : decode prog_3_method_18_code 22 = .ok (.aload_n 0, 1) := by decide +kernel
theorem d_Board_link_23 : decode prog_3_method_18_code 23 = .ok (.dup, 1) := by decide +kernel
theorem d_Board_link_24 : decode prog_3_method_18_code 24 = .ok (.getfield 52, 3) := by decide +kernel
theorem d_Board_link_27 : decode prog_3_method_18_code 27 = .ok (.iconst 1, 1) := by decide +kernel
theorem d_Board_link_28 : decode prog_3_method_18_code 28 = .ok (.iadd, 1) := by decide +kernel
theorem d_Board_link_29 : decode prog_3_method_18_code 29 = .ok (.putfield 52, 3) := by decide +kernel
theorem d_Board_link_32 : decode prog_3_method_18_code 32 = .ok (.iconst 0, 1) := by decide +kernel
theorem d_Board_link_33 : decode prog_3_method_18_code 33 = .ok (.istore_n 3, 1) := by decide +kernel
theorem d_Board_link_34 : decode prog_3_method_18_code 34 = .ok (.iload_n 3, 1) := by decide +kernel
theorem d_Board_link_35 : decode prog_3_method_18_code 35 = .ok (.aload_n 0, 1) := by decide +kernel
theorem d_Board_link_36 : decode prog_3_method_18_code 36 = .ok (.getfield 48, 3) := by decide +kernel
theorem d_Board_link_39 : decode prog_3_method_18_code 39 = .ok (.if_icmp .ge 40, 3) := by decide +kernel
theorem d_Board_link_42 : decode prog_3_method_18_code 42 = .ok (.aload_n 0, 1) := by decide +kernel
theorem d_Board_link_43 : decode prog_3_method_18_code 43 = .ok (.iload_n 1, 1) := by decide +kernel
theorem d_Board_link_44 : decode prog_3_method_18_code 44 = .ok (.iload_n 3, 1) := by decide +kernel
theorem d_Board_link_45 : decode prog_3_method_18_code 45 = .ok (.invokevirtual 108, 3) := by decide +kernel
theorem d_Board_link_48 : decode prog_3_method_18_code 48 = .ok (.ifCond .eq 25, 3) := by decide +kernel
theorem d_Board_link_51 : decode prog_3_method_18_code 51 = .ok (.aload_n 0, 1) := by decide +kernel
theorem d_Board_link_52 : decode prog_3_method_18_code 52 = .ok (.getfield 30, 3) := by decide +kernel
theorem d_Board_link_55 : decode prog_3_method_18_code 55 = .ok (.iload_n 3, 1) := by decide +kernel
theorem d_Board_link_56 : decode prog_3_method_18_code 56 = .ok (.aload_n 0, 1) := by decide +kernel
theorem d_Board_link_57 : decode prog_3_method_18_code 57 = .ok (.getfield 30, 3) := by decide +kernel
theorem d_Board_link_60 : decode prog_3_method_18_code 60 = .ok (.iload_n 2, 1) := by decide +kernel
theorem d_Board_link_61 : decode prog_3_method_18_code 61 = .ok (.invokevirtual 96, 3) := by decide +kernel
theorem d_Board_link_64 : decode prog_3_method_18_code 64 = .ok (.aload_n 0, 1) := by decide +kernel
theorem d_Board_link_65 : decode prog_3_method_18_code 65 = .ok (.getfield 30, 3) := by decide +kernel
theorem d_Board_link_68 : decode prog_3_method_18_code 68 = .ok (.iload_n 3, 1) := by decide +kernel
theorem d_Board_link_69 : decode prog_3_method_18_code 69 = .ok (.iload_n 2, 1) := by decide +kernel
theorem d_Board_link_70 : decode prog_3_method_18_code 70 = .ok (.invokevirtual 89, 3) := by decide +kernel
theorem d_Board_link_73 : decode prog_3_method_18_code 73 = .ok (.iinc 3 1, 3) := by decide +kernel
theorem d_Board_link_76 : decode prog_3_method_18_code 76 = .ok (.goto (-42), 3) := by decide +kernel
theorem d_Board_link_79 : decode prog_3_method_18_code 79 = .ok (.iconst 0, 1) := by decide +kernel
theorem d_Board_link_80 : decode prog_3_method_18_code 80 = .ok (.istore_n 3, 1) := by decide +kernel
theorem d_Board_link_81 : decode prog_3_method_18_code 81 = .ok (.iload_n 3, 1) := by decide +kernel
theorem d_Board_link_82 : decode prog_3_method_18_code 82 = .ok (.aload_n 0, 1) := by decide +kernel
theorem d_Board_link_83 : decode prog_3_method_18_code 83 = .ok (.getfield 48, 3) := by decide +kernel
theorem d_Board_link_86 : decode prog_3_method_18_code 86 = .ok (.if_icmp .ge 31, 3) := by decide +kernel
theorem d_Board_link_89 : decode prog_3_method_18_code 89 = .ok (.aload_n 0, 1) := by decide +kernel
theorem d_Board_link_90 : decode prog_3_method_18_code 90 = .ok (.iload_n 3, 1) := by decide +kernel
theorem d_Board_link_91 : decode prog_3_method_18_code 91 = .ok (.iload_n 2, 1) := by decide +kernel
theorem d_Board_link_92 : decode prog_3_method_18_code 92 = .ok (.invokevirtual 108, 3) := by decide +kernel
theorem d_Board_link_95 : decode prog_3_method_18_code 95 = .ok (.ifCond .eq 16, 3) := by decide +kernel
theorem d_Board_link_98 : decode prog_3_method_18_code 98 = .ok (.aload_n 0, 1) := by decide +kernel
theorem d_Board_link_99 : decode prog_3_method_18_code 99 = .ok (.getfield 36, 3) := by decide +kernel
theorem d_Board_link_102 : decode prog_3_method_18_code 102 = .ok (.iload_n 3, 1) := by decide +kernel
theorem d_Board_link_103 : decode prog_3_method_18_code 103 = .ok (.aload_n 0, 1) := by decide +kernel
theorem d_Board_link_104 : decode prog_3_method_18_code 104 = .ok (.getfield 36, 3) := by decide +kernel
theorem d_Board_link_107 : decode prog_3_method_18_code 107 = .ok (.iload_n 1, 1) := by decide +kernel
theorem d_Board_link_108 : decode prog_3_method_18_code 108 = .ok (.invokevirtual 96, 3) := by decide +kernel
theorem d_Board_link_111 : decode prog_3_method_18_code 111 = .ok (.iinc 3 1, 3) := by decide +kernel
theorem d_Board_link_114 : decode prog_3_method_18_code 114 = .ok (.goto (-33), 3) := by decide +kernel
theorem d_Board_link_117 : decode prog_3_method_18_code 117 = .ok (.return_, 1) := by decide +kernel
noncomputable def M_Board_link_b73 (x1 : Int32) (x2 : Int32) (x3 : Int32) (u : gSt) : Option ((Int32 × Int32 × Int32 × gSt) ⊕ ((Int32 × Int32 × gSt))) :=
  some (.inl (x1, x2, x3 + (1 : Int32), u))
set_option maxHeartbeats 4000000 in
set_option maxRecDepth 100000 in
theorem t_Board_link_b73 (C : gX "TermDesk$Board" prog_3_method_18_code 4 none 2 44 R cells slots cy D ρ A p s m args meth c) {x1 : Int32} {x2 : Int32} {x3 : Int32} {u : gSt} {z : (Int32 × Int32 × Int32 × gSt) ⊕ ((Int32 × Int32 × gSt))} (hM : M_Board_link_b73 x1 x2 x3 u = some z) (hN : ∀ x1' x2' x3' u', z = .inl (x1', x2', x3', u') → gAt p l e R s m args below meth c Q H0 cells slots cy D ρ A 4 34 [(0, .ref (ρ 4)), (1, .int (x1')), (2, .int (x2')), (3, .int (x3'))] [] (u')) (hE0 : ∀ x1' x2' u', z = .inr (x1', x2', u') → gAt p l e R s m args below meth c Q H0 cells slots cy D ρ A 4 79 [(0, .ref (ρ 4)), (1, .int (x1')), (2, .int (x2'))] [] (u')) : gAt p l e R s m args below meth c Q H0 cells slots cy D ρ A 4 73 [(0, .ref (ρ 4)), (1, .int x1), (2, .int x2), (3, .int x3)] [] u := by
  intro ls H locs hl hP hS
  have hx := C.1
  have hb := C.2.1
  unfold M_Board_link_b73 at hM
  refine lv_iinc (k := 3) (v := x3 + (1 : Int32)) (lv' := [(3, .int (x3 + (1 : Int32))), (0, .ref (ρ 4)), (1, .int x1), (2, .int x2)]) hx hb d_Board_link_73 hl rfl (congrArg (fun z => x3 + z) (by decide)) (by decide) rfl (fun ls hl => ?_)
  refine lv_goto (tgt := 34) hx hb d_Board_link_76 (by decide) ?_
  exact hN _ _ _ _ (Option.some.inj hM).symm ls H locs (lv_sub hl [1, 2, 3, 0] rfl) hP hS
noncomputable def M_Board_link_b34 (x1 : Int32) (x2 : Int32) (x3 : Int32) (u : gSt) : Option ((Int32 × Int32 × Int32 × gSt) ⊕ ((Int32 × Int32 × gSt))) :=
  if (u.1 4 9) ≤ x3 then
    (some (.inr (x1, x2, u)))
  else
    ((M_Board_isSameOrAbove x1 x3 u).bind fun q45 =>
    if q45.1 = (0 : Int32) then
      (M_Board_link_b73 x1 x2 x3 q45.2)
    else
      ((M_Grid_join 15 x3 15 x2 q45.2).bind fun q61 =>
      (M_Grid_put 15 x3 x2 q61).bind fun q70 =>
      M_Board_link_b73 x1 x2 x3 q70))
set_option maxHeartbeats 4000000 in
set_option maxRecDepth 100000 in
theorem t_Board_link_b34 (C : gX "TermDesk$Board" prog_3_method_18_code 4 none 2 44 R cells slots cy D ρ A p s m args meth c) {x1 : Int32} {x2 : Int32} {x3 : Int32} {u : gSt} {z : (Int32 × Int32 × Int32 × gSt) ⊕ ((Int32 × Int32 × gSt))} (hM : M_Board_link_b34 x1 x2 x3 u = some z) (hN : ∀ x1' x2' x3' u', z = .inl (x1', x2', x3', u') → gAt p l e R s m args below meth c Q H0 cells slots cy D ρ A 4 34 [(0, .ref (ρ 4)), (1, .int (x1')), (2, .int (x2')), (3, .int (x3'))] [] (u')) (hE0 : ∀ x1' x2' u', z = .inr (x1', x2', u') → gAt p l e R s m args below meth c Q H0 cells slots cy D ρ A 4 79 [(0, .ref (ρ 4)), (1, .int (x1')), (2, .int (x2'))] [] (u')) : gAt p l e R s m args below meth c Q H0 cells slots cy D ρ A 4 34 [(0, .ref (ρ 4)), (1, .int x1), (2, .int x2), (3, .int x3)] [] u := by
  intro ls H locs hl hP hS
  have hx := C.1
  have hb := C.2.1
  unfold M_Board_link_b34 at hM
  refine lv_iload_n hx hb d_Board_link_34 rfl (lv_at hl 3 rfl) ?_
  refine lv_aload_n hx hb d_Board_link_35 rfl (lv_at hl 0 rfl) ?_
  refine g_getI C hP gl_Board_48 rfl rfl d_Board_link_36 ?_
  refine lv_icmp_ge (tgt := 79) hx hb d_Board_link_39 (by decide) (fun hc39 => ?_) (fun hc39 => ?_)
  · replace hM := gi_t hc39 hM
    exact hE0 _ _ _ (Option.some.inj hM).symm ls H locs (lv_sub hl [0, 1, 2] rfl) hP hS
  · replace hM := gi_f hc39 hM
    refine lv_aload_n hx hb d_Board_link_42 rfl (lv_at hl 0 rfl) ?_
    refine lv_iload_n hx hb d_Board_link_43 rfl (lv_at hl 1 rfl) ?_
    refine lv_iload_n hx hb d_Board_link_44 rfl (lv_at hl 3 rfl) ?_
    obtain ⟨q45, hq45, hM⟩ := gb_some hM
    refine g_backI (g_runV (As := [.int x1, .int x3]) C hP (c_Board_isSameOrAbove C.2.2.2.2.2.2.2.2.1 hq45) gi_Board_isSameOrAbove gm_Board_108 rfl rfl (by decide) (by decide) hl.1 rfl (Nat.le_of_ble_eq_true rfl) d_Board_link_45) hS (fun H locs hP hS => ?_)
    refine lv_if_eq (tgt := 73) hx hb d_Board_link_48 (by decide) (fun hc48 => ?_) (fun hc48 => ?_)
    · replace hM := gi_t hc48 hM
      exact t_Board_link_b73 C hM hN hE0 ls H locs (lv_sub hl [0, 1, 2, 3] rfl) hP hS
    · replace hM := gi_f hc48 hM
      refine lv_aload_n hx hb d_Board_link_51 rfl (lv_at hl 0 rfl) ?_
      refine g_getR (b := 15) C hP gl_Board_30 rfl rfl rfl d_Board_link_52 ?_
      refine lv_iload_n hx hb d_Board_link_55 rfl (lv_at hl 3 rfl) ?_
      refine lv_aload_n hx hb d_Board_link_56 rfl (lv_at hl 0 rfl) ?_
      refine g_getR (b := 15) C hP gl_Board_30 rfl rfl rfl d_Board_link_57 ?_
      refine lv_iload_n hx hb d_Board_link_60 rfl (lv_at hl 2 rfl) ?_
      obtain ⟨q61, hq61, hM⟩ := gb_some hM
      refine g_backV (g_runV (As := [.int x3, .ref (ρ 15), .int x2]) C hP (c_Grid_join C.2.2.2.2.2.2.2.2.1 hq61) gi_Grid_join gm_Board_96 rfl rfl (by decide) (by decide) hl.1 rfl (Nat.le_of_ble_eq_true rfl) d_Board_link_61) hS (fun H locs hP hS => ?_)
      refine lv_aload_n hx hb d_Board_link_64 rfl (lv_at hl 0 rfl) ?_
      refine g_getR (b := 15) C hP gl_Board_30 rfl rfl rfl d_Board_link_65 ?_
      refine lv_iload_n hx hb d_Board_link_68 rfl (lv_at hl 3 rfl) ?_
      refine lv_iload_n hx hb d_Board_link_69 rfl (lv_at hl 2 rfl) ?_
      obtain ⟨q70, hq70, hM⟩ := gb_some hM
      refine g_backV (g_runV (As := [.int x3, .int x2]) C hP (c_Grid_put C.2.2.2.2.2.2.2.2.1 hq70) gi_Grid_put gm_Board_89 rfl rfl (by decide) (by decide) hl.1 rfl (Nat.le_of_ble_eq_true rfl) d_Board_link_70) hS (fun H locs hP hS => ?_)
      exact t_Board_link_b73 C hM hN hE0 ls H locs (lv_sub hl [0, 1, 2, 3] rfl) hP hS
noncomputable def M_Board_link_L34 : (Int32 × Int32 × Int32 × gSt) → Option ((Int32 × Int32 × Int32 × gSt) ⊕ ((Int32 × Int32 × gSt))) := fun x => M_Board_link_b34 x.1 x.2.1 x.2.2.1 x.2.2.2
theorem t_Board_link_L34 (C : gX "TermDesk$Board" prog_3_method_18_code 4 none 2 44 R cells slots cy D ρ A p s m args meth c) {x1 : Int32} {x2 : Int32} {x3 : Int32} {u : gSt} {yy : (Int32 × Int32 × gSt)} (hL : gLp M_Board_link_L34 (x1, x2, x3, u) = some yy) (hE0 : (∀ y', yy = y' → gAt p l e R s m args below meth c Q H0 cells slots cy D ρ A 4 79 [(0, .ref (ρ 4)), (1, .int (y'.1)), (2, .int (y'.2.1))] [] (y'.2.2))) : gAt p l e R s m args below meth c Q H0 cells slots cy D ρ A 4 34 [(0, .ref (ρ 4)), (1, .int x1), (2, .int x2), (3, .int x3)] [] u :=
  g_loop (f := M_Board_link_L34) (P := fun x => gAt p l e R s m args below meth c Q H0 cells slots cy D ρ A 4 34 [(0, .ref (ρ 4)), (1, .int x.1), (2, .int x.2.1), (3, .int x.2.2.1)] [] x.2.2.2) (E := fun yy => (∀ y', yy = y' → gAt p l e R s m args below meth c Q H0 cells slots cy D ρ A 4 79 [(0, .ref (ρ 4)), (1, .int (y'.1)), (2, .int (y'.2.1))] [] (y'.2.2))) (fun x z hf hN hE => t_Board_link_b34 C hf (fun x1' x2' x3' u' h => hN (x1', x2', x3', u') h) (fun x1' x2' u' h => (hE _ h) (x1', x2', u') rfl)) hL hE0
noncomputable def M_Board_link_b111 (x1 : Int32) (x2 : Int32) (x3 : Int32) (u : gSt) : Option ((Int32 × Int32 × Int32 × gSt) ⊕ ((gSt))) :=
  some (.inl (x1, x2, x3 + (1 : Int32), u))
set_option maxHeartbeats 4000000 in
set_option maxRecDepth 100000 in
theorem t_Board_link_b111 (C : gX "TermDesk$Board" prog_3_method_18_code 4 none 2 44 R cells slots cy D ρ A p s m args meth c) {x1 : Int32} {x2 : Int32} {x3 : Int32} {u : gSt} {z : (Int32 × Int32 × Int32 × gSt) ⊕ ((gSt))} (hM : M_Board_link_b111 x1 x2 x3 u = some z) (hN : ∀ x1' x2' x3' u', z = .inl (x1', x2', x3', u') → gAt p l e R s m args below meth c Q H0 cells slots cy D ρ A 4 81 [(0, .ref (ρ 4)), (1, .int (x1')), (2, .int (x2')), (3, .int (x3'))] [] (u')) (hE0 : ∀ u', z = .inr u' → gAt p l e R s m args below meth c Q H0 cells slots cy D ρ A 4 117 [] [] (u')) : gAt p l e R s m args below meth c Q H0 cells slots cy D ρ A 4 111 [(0, .ref (ρ 4)), (1, .int x1), (2, .int x2), (3, .int x3)] [] u := by
  intro ls H locs hl hP hS
  have hx := C.1
  have hb := C.2.1
  unfold M_Board_link_b111 at hM
  refine lv_iinc (k := 3) (v := x3 + (1 : Int32)) (lv' := [(3, .int (x3 + (1 : Int32))), (0, .ref (ρ 4)), (1, .int x1), (2, .int x2)]) hx hb d_Board_link_111 hl rfl (congrArg (fun z => x3 + z) (by decide)) (by decide) rfl (fun ls hl => ?_)
  refine lv_goto (tgt := 81) hx hb d_Board_link_114 (by decide) ?_
  exact hN _ _ _ _ (Option.some.inj hM).symm ls H locs (lv_sub hl [1, 2, 3, 0] rfl) hP hS
noncomputable def M_Board_link_b81 (x1 : Int32) (x2 : Int32) (x3 : Int32) (u : gSt) : Option ((Int32 × Int32 × Int32 × gSt) ⊕ ((gSt))) :=
  if (u.1 4 9) ≤ x3 then
    (some (.inr u))
  else
    ((M_Board_isSameOrAbove x3 x2 u).bind fun q92 =>
    if q92.1 = (0 : Int32) then
      (M_Board_link_b111 x1 x2 x3 q92.2)
    else
      ((M_Grid_join 19 x3 19 x1 q92.2).bind fun q108 =>
      M_Board_link_b111 x1 x2 x3 q108))
set_option maxHeartbeats 4000000 in
set_option maxRecDepth 100000 in
theorem t_Board_link_b81 (C : gX "TermDesk$Board" prog_3_method_18_code 4 none 2 44 R cells slots cy D ρ A p s m args meth c) {x1 : Int32} {x2 : Int32} {x3 : Int32} {u : gSt} {z : (Int32 × Int32 × Int32 × gSt) ⊕ ((gSt))} (hM : M_Board_link_b81 x1 x2 x3 u = some z) (hN : ∀ x1' x2' x3' u', z = .inl (x1', x2', x3', u') → gAt p l e R s m args below meth c Q H0 cells slots cy D ρ A 4 81 [(0, .ref (ρ 4)), (1, .int (x1')), (2, .int (x2')), (3, .int (x3'))] [] (u')) (hE0 : ∀ u', z = .inr u' → gAt p l e R s m args below meth c Q H0 cells slots cy D ρ A 4 117 [] [] (u')) : gAt p l e R s m args below meth c Q H0 cells slots cy D ρ A 4 81 [(0, .ref (ρ 4)), (1, .int x1), (2, .int x2), (3, .int x3)] [] u := by
  intro ls H locs hl hP hS
  have hx := C.1
  have hb := C.2.1
  unfold M_Board_link_b81 at hM
  refine lv_iload_n hx hb d_Board_link_81 rfl (lv_at hl 3 rfl) ?_
  refine lv_aload_n hx hb d_Board_link_82 rfl (lv_at hl 0 rfl) ?_
  refine g_getI C hP gl_Board_48 rfl rfl d_Board_link_83 ?_
  refine lv_icmp_ge (tgt := 117) hx hb d_Board_link_86 (by decide) (fun hc86 => ?_) (fun hc86 => ?_)
  · replace hM := gi_t hc86 hM
    exact hE0 _ (Option.some.inj hM).symm ls H locs (lv_sub hl [] rfl) hP hS
  · replace hM := gi_f hc86 hM
    refine lv_aload_n hx hb d_Board_link_89 rfl (lv_at hl 0 rfl) ?_
    refine lv_iload_n hx hb d_Board_link_90 rfl (lv_at hl 3 rfl) ?_
    refine lv_iload_n hx hb d_Board_link_91 rfl (lv_at hl 2 rfl) ?_
    obtain ⟨q92, hq92, hM⟩ := gb_some hM
    refine g_backI (g_runV (As := [.int x3, .int x2]) C hP (c_Board_isSameOrAbove C.2.2.2.2.2.2.2.2.1 hq92) gi_Board_isSameOrAbove gm_Board_108 rfl rfl (by decide) (by decide) hl.1 rfl (Nat.le_of_ble_eq_true rfl) d_Board_link_92) hS (fun H locs hP hS => ?_)
    refine lv_if_eq (tgt := 111) hx hb d_Board_link_95 (by decide) (fun hc95 => ?_) (fun hc95 => ?_)
    · replace hM := gi_t hc95 hM
      exact t_Board_link_b111 C hM hN hE0 ls H locs (lv_sub hl [0, 1, 2, 3] rfl) hP hS
    · replace hM := gi_f hc95 hM
      refine lv_aload_n hx hb d_Board_link_98 rfl (lv_at hl 0 rfl) ?_
      refine g_getR (b := 19) C hP gl_Board_36 rfl rfl rfl d_Board_link_99 ?_
      refine lv_iload_n hx hb d_Board_link_102 rfl (lv_at hl 3 rfl) ?_
      refine lv_aload_n hx hb d_Board_link_103 rfl (lv_at hl 0 rfl) ?_
      refine g_getR (b := 19) C hP gl_Board_36 rfl rfl rfl d_Board_link_104 ?_
      refine lv_iload_n hx hb d_Board_link_107 rfl (lv_at hl 1 rfl) ?_
      obtain ⟨q108, hq108, hM⟩ := gb_some hM
      refine g_backV (g_runV (As := [.int x3, .ref (ρ 19), .int x1]) C hP (c_Grid_join C.2.2.2.2.2.2.2.2.1 hq108) gi_Grid_join gm_Board_96 rfl rfl (by decide) (by decide) hl.1 rfl (Nat.le_of_ble_eq_true rfl) d_Board_link_108) hS (fun H locs hP hS => ?_)
      exact t_Board_link_b111 C hM hN hE0 ls H locs (lv_sub hl [0, 1, 2, 3] rfl) hP hS
noncomputable def M_Board_link_L81 : (Int32 × Int32 × Int32 × gSt) → Option ((Int32 × Int32 × Int32 × gSt) ⊕ ((gSt))) := fun x => M_Board_link_b81 x.1 x.2.1 x.2.2.1 x.2.2.2
theorem t_Board_link_L81 (C : gX "TermDesk$Board" prog_3_method_18_code 4 none 2 44 R cells slots cy D ρ A p s m args meth c) {x1 : Int32} {x2 : Int32} {x3 : Int32} {u : gSt} {yy : (gSt)} (hL : gLp M_Board_link_L81 (x1, x2, x3, u) = some yy) (hE0 : (∀ y', yy = y' → gAt p l e R s m args below meth c Q H0 cells slots cy D ρ A 4 117 [] [] (y'))) : gAt p l e R s m args below meth c Q H0 cells slots cy D ρ A 4 81 [(0, .ref (ρ 4)), (1, .int x1), (2, .int x2), (3, .int x3)] [] u :=
  g_loop (f := M_Board_link_L81) (P := fun x => gAt p l e R s m args below meth c Q H0 cells slots cy D ρ A 4 81 [(0, .ref (ρ 4)), (1, .int x.1), (2, .int x.2.1), (3, .int x.2.2.1)] [] x.2.2.2) (E := fun yy => (∀ y', yy = y' → gAt p l e R s m args below meth c Q H0 cells slots cy D ρ A 4 117 [] [] (y'))) (fun x z hf hN hE => t_Board_link_b81 C hf (fun x1' x2' x3' u' h => hN (x1', x2', x3', u') h) (fun u' h => (hE _ h) u' rfl)) hL hE0
noncomputable def M_Board_link (x1 : Int32) (x2 : Int32) (u : gSt) : Option (gSt) :=
  (M_Grid_has 13 x1 x2 u).bind fun q6 =>
  if q6.1 = (0 : Int32) then
    ((M_Grid_put 13 x1 x2 q6.2).bind fun q19 =>
    (some (gsF q19 4 10 ((q19.1 4 10) + (1 : Int32)))).bind fun u29 =>
    (gLp M_Board_link_L34 (x1, x2, (0 : Int32), u29)).bind fun y34 =>
    (gLp M_Board_link_L81 (y34.1, y34.2.1, (0 : Int32), y34.2.2)).bind fun y81 =>
    some y81)
  else
    (some q6.2)
set_option maxHeartbeats 4000000 in
set_option maxRecDepth 100000 in
theorem t_Board_link (C : gX "TermDesk$Board" prog_3_method_18_code 4 none 2 44 R cells slots cy D ρ A p s m args meth c) {x1 : Int32} {x2 : Int32} {u : gSt} {z : gSt} (hM : M_Board_link x1 x2 u = some z) (hR : gRtV p l e R s m args below meth c Q H0 cells slots cy D ρ A prog_3_method_18_code z) : gAt p l e R s m args below meth c Q H0 cells slots cy D ρ A 4 0 [(0, .ref (ρ 4)), (1, .int x1), (2, .int x2)] [] u := by
  intro ls H locs hl hP hS
  have hx := C.1
  have hb := C.2.1
  unfold M_Board_link at hM
  refine lv_aload_n hx hb d_Board_link_0 rfl (lv_at hl 0 rfl) ?_
  refine g_getR (b := 13) C hP gl_Board_26 rfl rfl rfl d_Board_link_1 ?_
  refine lv_iload_n hx hb d_Board_link_4 rfl (lv_at hl 1 rfl) ?_
  refine lv_iload_n hx hb d_Board_link_5 rfl (lv_at hl 2 rfl) ?_
  obtain ⟨q6, hq6, hM⟩ := gb_some hM
  refine g_backI (g_runV (As := [.int x1, .int x2]) C hP (c_Grid_has C.2.2.2.2.2.2.2.2.1 hq6) gi_Grid_has gm_Board_65 rfl rfl (by decide) (by decide) hl.1 rfl (Nat.le_of_ble_eq_true rfl) d_Board_link_6) hS (fun H locs hP hS => ?_)
  refine lv_if_eq (tgt := 13) hx hb d_Board_link_9 (by decide) (fun hc9 => ?_) (fun hc9 => ?_)
  · replace hM := gi_t hc9 hM
    refine lv_aload_n hx hb d_Board_link_13 rfl (lv_at hl 0 rfl) ?_
    refine g_getR (b := 13) C hP gl_Board_26 rfl rfl rfl d_Board_link_14 ?_
    refine lv_iload_n hx hb d_Board_link_17 rfl (lv_at hl 1 rfl) ?_
    refine lv_iload_n hx hb d_Board_link_18 rfl (lv_at hl 2 rfl) ?_
    obtain ⟨q19, hq19, hM⟩ := gb_some hM
    refine g_backV (g_runV (As := [.int x1, .int x2]) C hP (c_Grid_put C.2.2.2.2.2.2.2.2.1 hq19) gi_Grid_put gm_Board_89 rfl rfl (by decide) (by decide) hl.1 rfl (Nat.le_of_ble_eq_true rfl) d_Board_link_19) hS (fun H locs hP hS => ?_)
    refine lv_aload_n hx hb d_Board_link_22 rfl (lv_at hl 0 rfl) ?_
    refine lv_dup hx hb d_Board_link_23 rfl ?_
    refine g_getI C hP gl_Board_52 rfl rfl d_Board_link_24 ?_
    refine lv_iconst (v := (1 : Int32)) hx hb d_Board_link_27 (by decide) ?_
    refine lv_iadd hx hb d_Board_link_28 ?_
    obtain ⟨u29, e29, hM⟩ := gb_some hM
    refine g_putI C hP hS gl_Board_52 rfl rfl gq_3_10 d_Board_link_29 (fun H locs hP hS => ?_)
    rw [Option.some.inj e29] at hP
    refine lv_iconst (v := (0 : Int32)) hx hb d_Board_link_32 (by decide) ?_
    refine lv_istore_n (lv' := [(3, .int (0 : Int32)), (0, .ref (ρ 4)), (1, .int x1), (2, .int x2)]) hx hb d_Board_link_33 rfl hl (by decide) rfl (fun ls hl => ?_)
    obtain ⟨y34, hL34, hM⟩ := gb_some hM
    refine t_Board_link_L34 C hL34 (fun y34_0 hy => ?_) ls H locs (lv_sub hl [1, 2, 3, 0] rfl) hP hS
    · subst hy
      intro ls H locs hl hP hS
      refine lv_iconst (v := (0 : Int32)) hx hb d_Board_link_79 (by decide) ?_
      refine lv_istore_n (lv' := [(3, .int (0 : Int32)), (0, .ref (ρ 4)), (1, .int y34.1), (2, .int y34.2.1)]) hx hb d_Board_link_80 rfl hl (by decide) rfl (fun ls hl => ?_)
      obtain ⟨y81, hL81, hM⟩ := gb_some hM
      refine t_Board_link_L81 C hL81 (fun y81_0 hy => ?_) ls H locs (lv_sub hl [1, 2, 3, 0] rfl) hP hS
      · subst hy
        intro ls H locs hl hP hS
        obtain rfl := Option.some.inj hM
        exact hR _ ls H locs d_Board_link_117 hP hS
  · replace hM := gi_f hc9 hM
    obtain rfl := Option.some.inj hM
    exact hR _ ls H locs d_Board_link_12 hP hS
theorem c_Board_link {l : Launch} {cy : Nat → ClassId} {D : va_G} {ρ : Nat → Nat} {A : Nat → Prop} (hD : gD ρ A) {x1 : Int32} {x2 : Int32} {u : gSt} {z : gSt} (hM : M_Board_link x1 x2 u = some z) : gCtV l y_Board_link prog_3_method_18_code 4 none 2 44 cy D ρ A [.ref (ρ 4), .int x1, .int x2] u z :=
  g_met (by decide) hD (Nat.le_of_ble_eq_true rfl) (fun p e s m below meth c ls X hl hP => t_Board_link X hM (fun pc ls H locs hd hP hS => g_vret X hP hS hd) ls _ [] hl hP va_S.rf)
end
section
variable {p : Program} {l : Launch} {e : Env} {R : Room} {s : State} {m : MethodId} {args : Array Value} {below : List Frame} {meth : Method} {c : Code} {Q : State → Prop} {H0 : Heap} {cells slots : Nat} {cy : Nat → ClassId} {D : va_G} {ρ : Nat → Nat} {A : Nat → Prop}
def y_Board_canNote : MethodName := ⟨"TermDesk$Board", "canNote", "(II)Z"⟩
theorem gi_Board_canNote : gMi y_Board_canNote prog_3_method_19_code 3 (some .boolean) 2 3 := ⟨(gWs_at 592 (by decide +kernel) (by decide +kernel)), (gWs_at 591 (by decide +kernel) (by decide +kernel)), (gWs_at 26 (by decide +kernel) (by decide +kernel)), (gWs_at 120 (by decide +kernel) (by decide +kernel)), ⟨by decide +kernel, by decide +kernel, by decide +kernel⟩, _, _, rfl⟩
theorem gm_Clerk_181 : gMk "TermDesk$Clerk" 181 y_Board_canNote := Or.inr ⟨"TermDesk", gNs_at 589 (by decide +kernel) (by decide +kernel)⟩
theorem d_Board_canNote_0 : decode prog_3_method_19_code 0 = .ok (.aload_n 0, 1) := by decide +kernel
theorem d_Board_canNote_1 : decode prog_3_method_19_code 1 = .ok (.getfield 55, 3) := by decide +kernel
theorem d_Board_canNote_4 : decode prog_3_method_19_code 4 = .ok (.sipush 2000, 3) := by decide +kernel
theorem d_Board_canNote_7 : decode prog_3_method_19_code 7 = .ok (.if_icmp .lt 15, 3) := by decide +kernel
theorem d_Board_canNote_10 : decode prog_3_method_19_code 10 = .ok (.aload_n 0, 1) := by decide +kernel
theorem d_Board_canNote_11 : decode prog_3_method_19_code 11 = .ok (.getfield 33, 3) := by decide +kernel
theorem d_Board_canNote_14 : decode prog_3_method_19_code 14 = .ok (.iload_n 2, 1) := by decide +kernel
theorem d_Board_canNote_15 : decode prog_3_method_19_code 15 = .ok (.iload_n 1, 1) := by decide +kernel
theorem d_Board_canNote_16 : decode prog_3_method_19_code 16 = .ok (.invokevirtual 65, 3) := by decide +kernel
theorem d_Board_canNote_19 : decode prog_3_method_19_code 19 = .ok (.ifCond .eq 7, 3) := by decide +kernel
theorem d_Board_canNote_22 : decode prog_3_method_19_code 22 = .ok (.iconst 1, 1) := by decide +kernel
theorem d_Board_canNote_23 : decode prog_3_method_19_code 23 = .ok (.goto 4, 3) := by decide +kernel
theorem d_Board_canNote_26 : decode prog_3_method_19_code 26 = .ok (.iconst 0, 1) := by decide +kernel
theorem d_Board_canNote_27 : decode prog_3_method_19_code 27 = .ok (.ireturn, 1) := by decide +kernel
noncomputable def M_Board_canNote_b27 (s0 : Int32) (u : gSt) : Option ((Int32 × gSt)) :=
  gc (gZ s0) <| some (s0, u)
set_option maxHeartbeats 4000000 in
set_option maxRecDepth 100000 in
theorem t_Board_canNote_b27 (C : gX "TermDesk$Board" prog_3_method_19_code 3 (some .boolean) 1 22 R cells slots cy D ρ A p s m args meth c) {s0 : Int32} {u : gSt} {z : (Int32 × gSt)} (hM : M_Board_canNote_b27 s0 u = some z) (hR : gRtZ p l e R s m args below meth c Q H0 cells slots cy D ρ A prog_3_method_19_code z.1 z.2) : gAt p l e R s m args below meth c Q H0 cells slots cy D ρ A 3 27 [] [.int s0] u := by
  intro ls H locs hl hP hS
  have hx := C.1
  have hb := C.2.1
  unfold M_Board_canNote_b27 at hM
  obtain ⟨hz27, hM⟩ := gc_some hM
  obtain rfl := Option.some.inj hM
  exact hR _ ls H locs hz27 d_Board_canNote_27 hP hS
noncomputable def M_Board_canNote_b22 (u : gSt) : Option ((Int32 × gSt)) :=
  M_Board_canNote_b27 (1 : Int32) u
set_option maxHeartbeats 4000000 in
set_option maxRecDepth 100000 in
theorem t_Board_canNote_b22 (C : gX "TermDesk$Board" prog_3_method_19_code 3 (some .boolean) 1 22 R cells slots cy D ρ A p s m args meth c) {u : gSt} {z : (Int32 × gSt)} (hM : M_Board_canNote_b22 u = some z) (hR : gRtZ p l e R s m args below meth c Q H0 cells slots cy D ρ A prog_3_method_19_code z.1 z.2) : gAt p l e R s m args below meth c Q H0 cells slots cy D ρ A 3 22 [] [] u := by
  intro ls H locs hl hP hS
  have hx := C.1
  have hb := C.2.1
  unfold M_Board_canNote_b22 at hM
  refine lv_iconst (v := (1 : Int32)) hx hb d_Board_canNote_22 (by decide) ?_
  refine lv_goto (tgt := 27) hx hb d_Board_canNote_23 (by decide) ?_
  exact t_Board_canNote_b27 C hM hR ls H locs (lv_sub hl [] rfl) hP hS
noncomputable def M_Board_canNote (x1 : Int32) (x2 : Int32) (u : gSt) : Option ((Int32 × gSt)) :=
  if (u.1 4 11) < (2000 : Int32) then
    (M_Board_canNote_b22 u)
  else
    ((M_Grid_has 17 x2 x1 u).bind fun q16 =>
    if q16.1 = (0 : Int32) then
      (M_Board_canNote_b27 (0 : Int32) q16.2)
    else
      (M_Board_canNote_b22 q16.2))
set_option maxHeartbeats 4000000 in
set_option maxRecDepth 100000 in
theorem t_Board_canNote (C : gX "TermDesk$Board" prog_3_method_19_code 3 (some .boolean) 1 22 R cells slots cy D ρ A p s m args meth c) {x1 : Int32} {x2 : Int32} {u : gSt} {z : (Int32 × gSt)} (hM : M_Board_canNote x1 x2 u = some z) (hR : gRtZ p l e R s m args below meth c Q H0 cells slots cy D ρ A prog_3_method_19_code z.1 z.2) : gAt p l e R s m args below meth c Q H0 cells slots cy D ρ A 3 0 [(0, .ref (ρ 4)), (1, .int x1), (2, .int x2)] [] u := by
  intro ls H locs hl hP hS
  have hx := C.1
  have hb := C.2.1
  unfold M_Board_canNote at hM
  refine lv_aload_n hx hb d_Board_canNote_0 rfl (lv_at hl 0 rfl) ?_
  refine g_getI C hP gl_Board_55 rfl rfl d_Board_canNote_1 ?_
  refine lv_sipush (v := (2000 : Int32)) hx hb d_Board_canNote_4 (by decide) ?_
  refine lv_icmp_lt (tgt := 22) hx hb d_Board_canNote_7 (by decide) (fun hc7 => ?_) (fun hc7 => ?_)
  · replace hM := gi_t hc7 hM
    exact t_Board_canNote_b22 C hM hR ls H locs (lv_sub hl [] rfl) hP hS
  · replace hM := gi_f hc7 hM
    refine lv_aload_n hx hb d_Board_canNote_10 rfl (lv_at hl 0 rfl) ?_
    refine g_getR (b := 17) C hP gl_Board_33 rfl rfl rfl d_Board_canNote_11 ?_
    refine lv_iload_n hx hb d_Board_canNote_14 rfl (lv_at hl 2 rfl) ?_
    refine lv_iload_n hx hb d_Board_canNote_15 rfl (lv_at hl 1 rfl) ?_
    obtain ⟨q16, hq16, hM⟩ := gb_some hM
    refine g_backI (g_runV (As := [.int x2, .int x1]) C hP (c_Grid_has C.2.2.2.2.2.2.2.2.1 hq16) gi_Grid_has gm_Board_65 rfl rfl (by decide) (by decide) hl.1 rfl (Nat.le_of_ble_eq_true rfl) d_Board_canNote_16) hS (fun H locs hP hS => ?_)
    refine lv_if_eq (tgt := 26) hx hb d_Board_canNote_19 (by decide) (fun hc19 => ?_) (fun hc19 => ?_)
    · replace hM := gi_t hc19 hM
      refine lv_iconst (v := (0 : Int32)) hx hb d_Board_canNote_26 (by decide) ?_
      exact t_Board_canNote_b27 C hM hR ls H locs (lv_sub hl [] rfl) hP hS
    · replace hM := gi_f hc19 hM
      exact t_Board_canNote_b22 C hM hR ls H locs (lv_sub hl [] rfl) hP hS
theorem c_Board_canNote {l : Launch} {cy : Nat → ClassId} {D : va_G} {ρ : Nat → Nat} {A : Nat → Prop} (hD : gD ρ A) {x1 : Int32} {x2 : Int32} {u : gSt} {z : (Int32 × gSt)} (hM : M_Board_canNote x1 x2 u = some z) : gCtI l y_Board_canNote prog_3_method_19_code 3 (some .boolean) 1 22 cy D ρ A [.ref (ρ 4), .int x1, .int x2] u z.1 z.2 :=
  g_met (by decide) hD (Nat.le_of_ble_eq_true rfl) (fun p e s m below meth c ls X hl hP => t_Board_canNote X hM (fun pc ls H locs hz hd hP hS => g_zret X hP hS hz hd) ls _ [] hl hP va_S.rf)
end
section
variable {p : Program} {l : Launch} {e : Env} {R : Room} {s : State} {m : MethodId} {args : Array Value} {below : List Frame} {meth : Method} {c : Code} {Q : State → Prop} {H0 : Heap} {cells slots : Nat} {cy : Nat → ClassId} {D : va_G} {ρ : Nat → Nat} {A : Nat → Prop}
def y_Board_note : MethodName := ⟨"TermDesk$Board", "note", "(II)V"⟩
theorem gi_Board_note : gMi y_Board_note prog_3_method_20_code 4 none 2 3 := ⟨(gWs_at 596 (by decide +kernel) (by decide +kernel)), (gWs_at 595 (by decide +kernel) (by decide +kernel)), (gWs_at 27 (by decide +kernel) (by decide +kernel)), (gWs_at 120 (by decide +kernel) (by decide +kernel)), ⟨by decide +kernel, by decide +kernel, by decide +kernel⟩, _, _, rfl⟩
theorem gm_Clerk_184 : gMk "TermDesk$Clerk" 184 y_Board_note := Or.inr ⟨"TermDesk", gNs_at 593 (by decide +kernel) (by decide +kernel)⟩
theorem d_Board_note_0 : decode prog_3_method_20_code 0 = .ok (.aload_n 0, 1) := by decide +kernel
theorem d_Board_note_1 : decode prog_3_method_20_code 1 = .ok (.getfield 33, 3) := by decide +kernel
theorem d_Board_note_4 : decode prog_3_method_20_code 4 = .ok (.iload_n 2, 1) := by decide +kernel
theorem d_Board_note_5 : decode prog_3_method_20_code 5 = .ok (.iload_n 1, 1) := by decide +kernel
theorem d_Board_note_6 : decode prog_3_method_20_code 6 = .ok (.invokevirtual 65, 3) := by decide +kernel
theorem d_Board_note_9 : decode prog_3_method_20_code 9 = .ok (.ifCond .eq 4, 3) := by decide +kernel
theorem d_Board_note_12 : decode prog_3_method_20_code 12 = .ok (.return_, 1) := by decide +kernel
theorem d_Board_note_13 : decode prog_3_method_20_code 13 = .ok (.aload_n 0, 1) := by decide +kernel
theorem d_Board_note_14 : decode prog_3_method_20_code 14 = .ok (.getfield 33, 3) := by decide +kernel
theorem d_Board_note_17 : decode prog_3_method_20_code 17 = .ok (.iload_n 2, 1) := by decide +kernel
theorem d_Board_note_18 : decode prog_3_method_20_code 18 = .ok (.iload_n 1, 1) := by decide +kernel
theorem d_Board_note_19 : decode prog_3_method_20_code 19 = .ok (.invokevirtual 89, 3) := by decide +kernel
theorem d_Board_note_22 : decode prog_3_method_20_code 22 = .ok (.aload_n 0, 1) := by decide +kernel
theorem d_Board_note_23 : decode prog_3_method_20_code 23 = .ok (.dup, 1) := by decide +kernel
theorem d_Board_note_24 : decode prog_3_method_20_code 24 = .ok (.getfield 55, 3) := by decide +kernel
theorem d_Board_note_27 : decode prog_3_method_20_code 27 = .ok (.iconst 1, 1) := by decide +kernel
theorem d_Board_note_28 : decode prog_3_method_20_code 28 = .ok (.iadd, 1) := by decide +kernel
theorem d_Board_note_29 : decode prog_3_method_20_code 29 = .ok (.putfield 55, 3) := by decide +kernel
theorem d_Board_note_32 : decode prog_3_method_20_code 32 = .ok (.iconst 0, 1) := by decide +kernel
theorem d_Board_note_33 : decode prog_3_method_20_code 33 = .ok (.istore_n 3, 1) := by decide +kernel
theorem d_Board_note_34 : decode prog_3_method_20_code 34 = .ok (.iload_n 3, 1) := by decide +kernel
theorem d_Board_note_35 : decode prog_3_method_20_code 35 = .ok (.aload_n 0, 1) := by decide +kernel
theorem d_Board_note_36 : decode prog_3_method_20_code 36 = .ok (.getfield 48, 3) := by decide +kernel
theorem d_Board_note_39 : decode prog_3_method_20_code 39 = .ok (.if_icmp .ge 27, 3) := by decide +kernel
theorem d_Board_note_42 : decode prog_3_method_20_code 42 = .ok (.aload_n 0, 1) := by decide +kernel
theorem d_Board_note_43 : decode prog_3_method_20_code 43 = .ok (.iload_n 3, 1) := by decide +kernel
theorem d_Board_note_44 : decode prog_3_method_20_code 44 = .ok (.iload_n 2, 1) := by decide +kernel
theorem d_Board_note_45 : decode prog_3_method_20_code 45 = .ok (.invokevirtual 108, 3) := by decide +kernel
theorem d_Board_note_48 : decode prog_3_method_20_code 48 = .ok (.ifCond .eq 12, 3) := by decide +kernel
theorem d_Board_note_51 : decode prog_3_method_20_code 51 = .ok (.aload_n 0, 1) := by decide +kernel
theorem d_Board_note_52 : decode prog_3_method_20_code 52 = .ok (.getfield 36, 3) := by decide +kernel
theorem d_Board_note_55 : decode prog_3_method_20_code 55 = .ok (.iload_n 3, 1) := by decide +kernel
theorem d_Board_note_56 : decode prog_3_method_20_code 56 = .ok (.iload_n 1, 1) := by decide +kernel
theorem d_Board_note_57 : decode prog_3_method_20_code 57 = .ok (.invokevirtual 89, 3) := by decide +kernel
theorem d_Board_note_60 : decode prog_3_method_20_code 60 = .ok (.iinc 3 1, 3) := by decide +kernel
theorem d_Board_note_63 : decode prog_3_method_20_code 63 = .ok (.goto (-29), 3) := by decide +kernel
theorem d_Board_note_66 : decode prog_3_method_20_code 66 = .ok (.return_, 1) := by decide +kernel
noncomputable def M_Board_note_b60 (x1 : Int32) (x2 : Int32) (x3 : Int32) (u : gSt) : Option ((Int32 × Int32 × Int32 × gSt) ⊕ ((gSt))) :=
  some (.inl (x1, x2, x3 + (1 : Int32), u))
set_option maxHeartbeats 4000000 in
set_option maxRecDepth 100000 in
theorem t_Board_note_b60 (C : gX "TermDesk$Board" prog_3_method_20_code 4 none 2 44 R cells slots cy D ρ A p s m args meth c) {x1 : Int32} {x2 : Int32} {x3 : Int32} {u : gSt} {z : (Int32 × Int32 × Int32 × gSt) ⊕ ((gSt))} (hM : M_Board_note_b60 x1 x2 x3 u = some z) (hN : ∀ x1' x2' x3' u', z = .inl (x1', x2', x3', u') → gAt p l e R s m args below meth c Q H0 cells slots cy D ρ A 4 34 [(0, .ref (ρ 4)), (1, .int (x1')), (2, .int (x2')), (3, .int (x3'))] [] (u')) (hE0 : ∀ u', z = .inr u' → gAt p l e R s m args below meth c Q H0 cells slots cy D ρ A 4 66 [] [] (u')) : gAt p l e R s m args below meth c Q H0 cells slots cy D ρ A 4 60 [(0, .ref (ρ 4)), (1, .int x1), (2, .int x2), (3, .int x3)] [] u := by
  intro ls H locs hl hP hS
  have hx := C.1
  have hb := C.2.1
  unfold M_Board_note_b60 at hM
  refine lv_iinc (k := 3) (v := x3 + (1 : Int32)) (lv' := [(3, .int (x3 + (1 : Int32))), (0, .ref (ρ 4)), (1, .int x1), (2, .int x2)]) hx hb d_Board_note_60 hl rfl (congrArg (fun z => x3 + z) (by decide)) (by decide) rfl (fun ls hl => ?_)
  refine lv_goto (tgt := 34) hx hb d_Board_note_63 (by decide) ?_
  exact hN _ _ _ _ (Option.some.inj hM).symm ls H locs (lv_sub hl [1, 2, 3, 0] rfl) hP hS
noncomputable def M_Board_note_b34 (x1 : Int32) (x2 : Int32) (x3 : Int32) (u : gSt) : Option ((Int32 × Int32 × Int32 × gSt) ⊕ ((gSt))) :=
  if (u.1 4 9) ≤ x3 then
    (some (.inr u))
  else
    ((M_Board_isSameOrAbove x3 x2 u).bind fun q45 =>
    if q45.1 = (0 : Int32) then
      (M_Board_note_b60 x1 x2 x3 q45.2)
    else
      ((M_Grid_put 19 x3 x1 q45.2).bind fun q57 =>
      M_Board_note_b60 x1 x2 x3 q57))
set_option maxHeartbeats 4000000 in
set_option maxRecDepth 100000 in
theorem t_Board_note_b34 (C : gX "TermDesk$Board" prog_3_method_20_code 4 none 2 44 R cells slots cy D ρ A p s m args meth c) {x1 : Int32} {x2 : Int32} {x3 : Int32} {u : gSt} {z : (Int32 × Int32 × Int32 × gSt) ⊕ ((gSt))} (hM : M_Board_note_b34 x1 x2 x3 u = some z) (hN : ∀ x1' x2' x3' u', z = .inl (x1', x2', x3', u') → gAt p l e R s m args below meth c Q H0 cells slots cy D ρ A 4 34 [(0, .ref (ρ 4)), (1, .int (x1')), (2, .int (x2')), (3, .int (x3'))] [] (u')) (hE0 : ∀ u', z = .inr u' → gAt p l e R s m args below meth c Q H0 cells slots cy D ρ A 4 66 [] [] (u')) : gAt p l e R s m args below meth c Q H0 cells slots cy D ρ A 4 34 [(0, .ref (ρ 4)), (1, .int x1), (2, .int x2), (3, .int x3)] [] u := by
  intro ls H locs hl hP hS
  have hx := C.1
  have hb := C.2.1
  unfold M_Board_note_b34 at hM
  refine lv_iload_n hx hb d_Board_note_34 rfl (lv_at hl 3 rfl) ?_
  refine lv_aload_n hx hb d_Board_note_35 rfl (lv_at hl 0 rfl) ?_
  refine g_getI C hP gl_Board_48 rfl rfl d_Board_note_36 ?_
  refine lv_icmp_ge (tgt := 66) hx hb d_Board_note_39 (by decide) (fun hc39 => ?_) (fun hc39 => ?_)
  · replace hM := gi_t hc39 hM
    exact hE0 _ (Option.some.inj hM).symm ls H locs (lv_sub hl [] rfl) hP hS
  · replace hM := gi_f hc39 hM
    refine lv_aload_n hx hb d_Board_note_42 rfl (lv_at hl 0 rfl) ?_
    refine lv_iload_n hx hb d_Board_note_43 rfl (lv_at hl 3 rfl) ?_
    refine lv_iload_n hx hb d_Board_note_44 rfl (lv_at hl 2 rfl) ?_
    obtain ⟨q45, hq45, hM⟩ := gb_some hM
    refine g_backI (g_runV (As := [.int x3, .int x2]) C hP (c_Board_isSameOrAbove C.2.2.2.2.2.2.2.2.1 hq45) gi_Board_isSameOrAbove gm_Board_108 rfl rfl (by decide) (by decide) hl.1 rfl (Nat.le_of_ble_eq_true rfl) d_Board_note_45) hS (fun H locs hP hS => ?_)
    refine lv_if_eq (tgt := 60) hx hb d_Board_note_48 (by decide) (fun hc48 => ?_) (fun hc48 => ?_)
    · replace hM := gi_t hc48 hM
      exact t_Board_note_b60 C hM hN hE0 ls H locs (lv_sub hl [0, 1, 2, 3] rfl) hP hS
    · replace hM := gi_f hc48 hM
      refine lv_aload_n hx hb d_Board_note_51 rfl (lv_at hl 0 rfl) ?_
      refine g_getR (b := 19) C hP gl_Board_36 rfl rfl rfl d_Board_note_52 ?_
      refine lv_iload_n hx hb d_Board_note_55 rfl (lv_at hl 3 rfl) ?_
      refine lv_iload_n hx hb d_Board_note_56 rfl (lv_at hl 1 rfl) ?_
      obtain ⟨q57, hq57, hM⟩ := gb_some hM
      refine g_backV (g_runV (As := [.int x3, .int x1]) C hP (c_Grid_put C.2.2.2.2.2.2.2.2.1 hq57) gi_Grid_put gm_Board_89 rfl rfl (by decide) (by decide) hl.1 rfl (Nat.le_of_ble_eq_true rfl) d_Board_note_57) hS (fun H locs hP hS => ?_)
      exact t_Board_note_b60 C hM hN hE0 ls H locs (lv_sub hl [0, 1, 2, 3] rfl) hP hS
noncomputable def M_Board_note_L34 : (Int32 × Int32 × Int32 × gSt) → Option ((Int32 × Int32 × Int32 × gSt) ⊕ ((gSt))) := fun x => M_Board_note_b34 x.1 x.2.1 x.2.2.1 x.2.2.2
theorem t_Board_note_L34 (C : gX "TermDesk$Board" prog_3_method_20_code 4 none 2 44 R cells slots cy D ρ A p s m args meth c) {x1 : Int32} {x2 : Int32} {x3 : Int32} {u : gSt} {yy : (gSt)} (hL : gLp M_Board_note_L34 (x1, x2, x3, u) = some yy) (hE0 : (∀ y', yy = y' → gAt p l e R s m args below meth c Q H0 cells slots cy D ρ A 4 66 [] [] (y'))) : gAt p l e R s m args below meth c Q H0 cells slots cy D ρ A 4 34 [(0, .ref (ρ 4)), (1, .int x1), (2, .int x2), (3, .int x3)] [] u :=
  g_loop (f := M_Board_note_L34) (P := fun x => gAt p l e R s m args below meth c Q H0 cells slots cy D ρ A 4 34 [(0, .ref (ρ 4)), (1, .int x.1), (2, .int x.2.1), (3, .int x.2.2.1)] [] x.2.2.2) (E := fun yy => (∀ y', yy = y' → gAt p l e R s m args below meth c Q H0 cells slots cy D ρ A 4 66 [] [] (y'))) (fun x z hf hN hE => t_Board_note_b34 C hf (fun x1' x2' x3' u' h => hN (x1', x2', x3', u') h) (fun u' h => (hE _ h) u' rfl)) hL hE0
noncomputable def M_Board_note (x1 : Int32) (x2 : Int32) (u : gSt) : Option (gSt) :=
  (M_Grid_has 17 x2 x1 u).bind fun q6 =>
  if q6.1 = (0 : Int32) then
    ((M_Grid_put 17 x2 x1 q6.2).bind fun q19 =>
    (some (gsF q19 4 11 ((q19.1 4 11) + (1 : Int32)))).bind fun u29 =>
    (gLp M_Board_note_L34 (x1, x2, (0 : Int32), u29)).bind fun y34 =>
    some y34)
  else
    (some q6.2)
set_option maxHeartbeats 4000000 in
set_option maxRecDepth 100000 in
theorem t_Board_note (C : gX "TermDesk$Board" prog_3_method_20_code 4 none 2 44 R cells slots cy D ρ A p s m args meth c) {x1 : Int32} {x2 : Int32} {u : gSt} {z : gSt} (hM : M_Board_note x1 x2 u = some z) (hR : gRtV p l e R s m args below meth c Q H0 cells slots cy D ρ A prog_3_method_20_code z) : gAt p l e R s m args below meth c Q H0 cells slots cy D ρ A 4 0 [(0, .ref (ρ 4)), (1, .int x1), (2, .int x2)] [] u := by
  intro ls H locs hl hP hS
  have hx := C.1
  have hb := C.2.1
  unfold M_Board_note at hM
  refine lv_aload_n hx hb d_Board_note_0 rfl (lv_at hl 0 rfl) ?_
  refine g_getR (b := 17) C hP gl_Board_33 rfl rfl rfl d_Board_note_1 ?_
  refine lv_iload_n hx hb d_Board_note_4 rfl (lv_at hl 2 rfl) ?_
  refine lv_iload_n hx hb d_Board_note_5 rfl (lv_at hl 1 rfl) ?_
  obtain ⟨q6, hq6, hM⟩ := gb_some hM
  refine g_backI (g_runV (As := [.int x2, .int x1]) C hP (c_Grid_has C.2.2.2.2.2.2.2.2.1 hq6) gi_Grid_has gm_Board_65 rfl rfl (by decide) (by decide) hl.1 rfl (Nat.le_of_ble_eq_true rfl) d_Board_note_6) hS (fun H locs hP hS => ?_)
  refine lv_if_eq (tgt := 13) hx hb d_Board_note_9 (by decide) (fun hc9 => ?_) (fun hc9 => ?_)
  · replace hM := gi_t hc9 hM
    refine lv_aload_n hx hb d_Board_note_13 rfl (lv_at hl 0 rfl) ?_
    refine g_getR (b := 17) C hP gl_Board_33 rfl rfl rfl d_Board_note_14 ?_
    refine lv_iload_n hx hb d_Board_note_17 rfl (lv_at hl 2 rfl) ?_
    refine lv_iload_n hx hb d_Board_note_18 rfl (lv_at hl 1 rfl) ?_
    obtain ⟨q19, hq19, hM⟩ := gb_some hM
    refine g_backV (g_runV (As := [.int x2, .int x1]) C hP (c_Grid_put C.2.2.2.2.2.2.2.2.1 hq19) gi_Grid_put gm_Board_89 rfl rfl (by decide) (by decide) hl.1 rfl (Nat.le_of_ble_eq_true rfl) d_Board_note_19) hS (fun H locs hP hS => ?_)
    refine lv_aload_n hx hb d_Board_note_22 rfl (lv_at hl 0 rfl) ?_
    refine lv_dup hx hb d_Board_note_23 rfl ?_
    refine g_getI C hP gl_Board_55 rfl rfl d_Board_note_24 ?_
    refine lv_iconst (v := (1 : Int32)) hx hb d_Board_note_27 (by decide) ?_
    refine lv_iadd hx hb d_Board_note_28 ?_
    obtain ⟨u29, e29, hM⟩ := gb_some hM
    refine g_putI C hP hS gl_Board_55 rfl rfl gq_3_11 d_Board_note_29 (fun H locs hP hS => ?_)
    rw [Option.some.inj e29] at hP
    refine lv_iconst (v := (0 : Int32)) hx hb d_Board_note_32 (by decide) ?_
    refine lv_istore_n (lv' := [(3, .int (0 : Int32)), (0, .ref (ρ 4)), (1, .int x1), (2, .int x2)]) hx hb d_Board_note_33 rfl hl (by decide) rfl (fun ls hl => ?_)
    obtain ⟨y34, hL34, hM⟩ := gb_some hM
    refine t_Board_note_L34 C hL34 (fun y34_0 hy => ?_) ls H locs (lv_sub hl [1, 2, 3, 0] rfl) hP hS
    · subst hy
      intro ls H locs hl hP hS
      obtain rfl := Option.some.inj hM
      exact hR _ ls H locs d_Board_note_66 hP hS
  · replace hM := gi_f hc9 hM
    obtain rfl := Option.some.inj hM
    exact hR _ ls H locs d_Board_note_12 hP hS
theorem c_Board_note {l : Launch} {cy : Nat → ClassId} {D : va_G} {ρ : Nat → Nat} {A : Nat → Prop} (hD : gD ρ A) {x1 : Int32} {x2 : Int32} {u : gSt} {z : gSt} (hM : M_Board_note x1 x2 u = some z) : gCtV l y_Board_note prog_3_method_20_code 4 none 2 44 cy D ρ A [.ref (ρ 4), .int x1, .int x2] u z :=
  g_met (by decide) hD (Nat.le_of_ble_eq_true rfl) (fun p e s m below meth c ls X hl hP => t_Board_note X hM (fun pc ls H locs hd hP hS => g_vret X hP hS hd) ls _ [] hl hP va_S.rf)
end
section
variable {p : Program} {l : Launch} {e : Env} {R : Room} {s : State} {m : MethodId} {args : Array Value} {below : List Frame} {meth : Method} {c : Code} {Q : State → Prop} {H0 : Heap} {cells slots : Nat} {cy : Nat → ClassId} {D : va_G} {ρ : Nat → Nat} {A : Nat → Prop}
def y_Clerk_faultOfKnown : MethodName := ⟨"TermDesk$Clerk", "faultOfKnown", "(I)I"⟩
theorem gi_Clerk_faultOfKnown : gMi y_Clerk_faultOfKnown prog_4_method_6_code 3 (some .int) 1 1 := ⟨(gWs_at 520 (by decide +kernel) (by decide +kernel)), (gWs_at 519 (by decide +kernel) (by decide +kernel)), (gWs_at 11 (by decide +kernel) (by decide +kernel)), (gWs_at 118 (by decide +kernel) (by decide +kernel)), ⟨by decide +kernel, by decide +kernel, by decide +kernel⟩, _, _, rfl⟩
theorem gm_Clerk_125 : gMk "TermDesk$Clerk" 125 y_Clerk_faultOfKnown := Or.inl (gWs_at 517 (by decide +kernel) (by decide +kernel))
theorem d_Clerk_faultOfKnown_0 : decode prog_4_method_6_code 0 = .ok (.iload_n 1, 1) := by decide +kernel
theorem d_Clerk_faultOfKnown_1 : decode prog_4_method_6_code 1 = .ok (.iconst 5, 1) := by decide +kernel
theorem d_Clerk_faultOfKnown_2 : decode prog_4_method_6_code 2 = .ok (.if_icmp .ne 37, 3) := by decide +kernel
theorem d_Clerk_faultOfKnown_5 : decode prog_4_method_6_code 5 = .ok (.aload_n 0, 1) := by decide +kernel
theorem d_Clerk_faultOfKnown_6 : decode prog_4_method_6_code 6 = .ok (.getfield 21, 3) := by decide +kernel
theorem d_Clerk_faultOfKnown_9 : decode prog_4_method_6_code 9 = .ok (.aload_n 0, 1) := by decide +kernel
theorem d_Clerk_faultOfKnown_10 : decode prog_4_method_6_code 10 = .ok (.getfield 39, 3) := by decide +kernel
theorem d_Clerk_faultOfKnown_13 : decode prog_4_method_6_code 13 = .ok (.invokevirtual 128, 3) := by decide +kernel
theorem d_Clerk_faultOfKnown_16 : decode prog_4_method_6_code 16 = .ok (.ifCond .eq 23, 3) := by decide +kernel
theorem d_Clerk_faultOfKnown_19 : decode prog_4_method_6_code 19 = .ok (.aload_n 0, 1) := by decide +kernel
theorem d_Clerk_faultOfKnown_20 : decode prog_4_method_6_code 20 = .ok (.getfield 21, 3) := by decide +kernel
theorem d_Clerk_faultOfKnown_23 : decode prog_4_method_6_code 23 = .ok (.aload_n 0, 1) := by decide +kernel
theorem d_Clerk_faultOfKnown_24 : decode prog_4_method_6_code 24 = .ok (.getfield 39, 3) := by decide +kernel
theorem d_Clerk_faultOfKnown_27 : decode prog_4_method_6_code 27 = .ok (.aload_n 0, 1) := by decide +kernel
theorem d_Clerk_faultOfKnown_28 : decode prog_4_method_6_code 28 = .ok (.getfield 42, 3) := by decide +kernel
theorem d_Clerk_faultOfKnown_31 : decode prog_4_method_6_code 31 = .ok (.invokevirtual 132, 3) := by decide +kernel
theorem d_Clerk_faultOfKnown_34 : decode prog_4_method_6_code 34 = .ok (.ifCond .eq 5, 3) := by decide +kernel
theorem d_Clerk_faultOfKnown_37 : decode prog_4_method_6_code 37 = .ok (.iconst 5, 1) := by decide +kernel
theorem d_Clerk_faultOfKnown_38 : decode prog_4_method_6_code 38 = .ok (.ireturn, 1) := by decide +kernel
theorem d_Clerk_faultOfKnown_39 : decode prog_4_method_6_code 39 = .ok (.iload_n 1, 1) := by decide +kernel
theorem d_Clerk_faultOfKnown_40 : decode prog_4_method_6_code 40 = .ok (.iconst 4, 1) := by decide +kernel
theorem d_Clerk_faultOfKnown_41 : decode prog_4_method_6_code 41 = .ok (.if_icmp .eq 8, 3) := by decide +kernel
theorem d_Clerk_faultOfKnown_44 : decode prog_4_method_6_code 44 = .ok (.iload_n 1, 1) := by decide +kernel
theorem d_Clerk_faultOfKnown_45 : decode prog_4_method_6_code 45 = .ok (.iconst 5, 1) := by decide +kernel
theorem d_Clerk_faultOfKnown_46 : decode prog_4_method_6_code 46 = .ok (.if_icmp .ne 7, 3) := by decide +kernel
theorem d_Clerk_faultOfKnown_49 : decode prog_4_method_6_code 49 = .ok (.iconst 1, 1) := by decide +kernel
theorem d_Clerk_faultOfKnown_50 : decode prog_4_method_6_code 50 = .ok (.goto 4, 3) := by decide +kernel
theorem d_Clerk_faultOfKnown_53 : decode prog_4_method_6_code 53 = .ok (.iconst 0, 1) := by decide +kernel
theorem d_Clerk_faultOfKnown_54 : decode prog_4_method_6_code 54 = .ok (.istore_n 2, 1) := by decide +kernel
theorem d_Clerk_faultOfKnown_55 : decode prog_4_method_6_code 55 = .ok (.iload_n 2, 1) := by decide +kernel
theorem d_Clerk_faultOfKnown_56 : decode prog_4_method_6_code 56 = .ok (.ifCond .eq 22, 3) := by decide +kernel
theorem d_Clerk_faultOfKnown_59 : decode prog_4_method_6_code 59 = .ok (.aload_n 0, 1) := by decide +kernel
theorem d_Clerk_faultOfKnown_60 : decode prog_4_method_6_code 60 = .ok (.getfield 21, 3) := by decide +kernel
theorem d_Clerk_faultOfKnown_63 : decode prog_4_method_6_code 63 = .ok (.aload_n 0, 1) := by decide +kernel
theorem d_Clerk_faultOfKnown_64 : decode prog_4_method_6_code 64 = .ok (.getfield 42, 3) := by decide +kernel
theorem d_Clerk_faultOfKnown_67 : decode prog_4_method_6_code 67 = .ok (.invokevirtual 136, 3) := by decide +kernel
theorem d_Clerk_faultOfKnown_70 : decode prog_4_method_6_code 70 = .ok (.ifCond .eq 8, 3) := by decide +kernel
theorem d_Clerk_faultOfKnown_73 : decode prog_4_method_6_code 73 = .ok (.bipush 6, 2) := by decide +kernel
theorem d_Clerk_faultOfKnown_75 : decode prog_4_method_6_code 75 = .ok (.goto 4, 3) := by decide +kernel
theorem d_Clerk_faultOfKnown_78 : decode prog_4_method_6_code 78 = .ok (.iconst 0, 1) := by decide +kernel
theorem d_Clerk_faultOfKnown_79 : decode prog_4_method_6_code 79 = .ok (.ireturn, 1) := by decide +kernel
noncomputable def M_Clerk_faultOfKnown_b79 (s0 : Int32) (u : gSt) : Option ((Int32 × gSt)) :=
  some (s0, u)
set_option maxHeartbeats 4000000 in
set_option maxRecDepth 100000 in
theorem t_Clerk_faultOfKnown_b79 (C : gX "TermDesk$Clerk" prog_4_method_6_code 3 (some .int) 2 44 R cells slots cy D ρ A p s m args meth c) {s0 : Int32} {u : gSt} {z : (Int32 × gSt)} (hM : M_Clerk_faultOfKnown_b79 s0 u = some z) (hR : gRtI p l e R s m args below meth c Q H0 cells slots cy D ρ A prog_4_method_6_code z.1 z.2) : gAt p l e R s m args below meth c Q H0 cells slots cy D ρ A 3 79 [] [.int s0] u := by
  intro ls H locs hl hP hS
  have hx := C.1
  have hb := C.2.1
  unfold M_Clerk_faultOfKnown_b79 at hM
  obtain rfl := Option.some.inj hM
  exact hR _ ls H locs d_Clerk_faultOfKnown_79 hP hS
noncomputable def M_Clerk_faultOfKnown_b78 (u : gSt) : Option ((Int32 × gSt)) :=
  M_Clerk_faultOfKnown_b79 (0 : Int32) u
set_option maxHeartbeats 4000000 in
set_option maxRecDepth 100000 in
theorem t_Clerk_faultOfKnown_b78 (C : gX "TermDesk$Clerk" prog_4_method_6_code 3 (some .int) 2 44 R cells slots cy D ρ A p s m args meth c) {u : gSt} {z : (Int32 × gSt)} (hM : M_Clerk_faultOfKnown_b78 u = some z) (hR : gRtI p l e R s m args below meth c Q H0 cells slots cy D ρ A prog_4_method_6_code z.1 z.2) : gAt p l e R s m args below meth c Q H0 cells slots cy D ρ A 3 78 [] [] u := by
  intro ls H locs hl hP hS
  have hx := C.1
  have hb := C.2.1
  unfold M_Clerk_faultOfKnown_b78 at hM
  refine lv_iconst (v := (0 : Int32)) hx hb d_Clerk_faultOfKnown_78 (by decide) ?_
  exact t_Clerk_faultOfKnown_b79 C hM hR ls H locs (lv_sub hl [] rfl) hP hS
noncomputable def M_Clerk_faultOfKnown_b54 (s0 : Int32) (u : gSt) : Option ((Int32 × gSt)) :=
  if s0 = (0 : Int32) then
    (M_Clerk_faultOfKnown_b78 u)
  else
    ((M_Board_isOld (u.1 1 7) u).bind fun q67 =>
    if q67.1 = (0 : Int32) then
      (M_Clerk_faultOfKnown_b78 q67.2)
    else
      (M_Clerk_faultOfKnown_b79 (6 : Int32) q67.2))
set_option maxHeartbeats 4000000 in
set_option maxRecDepth 100000 in
theorem t_Clerk_faultOfKnown_b54 (C : gX "TermDesk$Clerk" prog_4_method_6_code 3 (some .int) 2 44 R cells slots cy D ρ A p s m args meth c) {s0 : Int32} {u : gSt} {z : (Int32 × gSt)} (hM : M_Clerk_faultOfKnown_b54 s0 u = some z) (hR : gRtI p l e R s m args below meth c Q H0 cells slots cy D ρ A prog_4_method_6_code z.1 z.2) : gAt p l e R s m args below meth c Q H0 cells slots cy D ρ A 3 54 [(0, .ref (ρ 1))] [.int s0] u := by
  intro ls H locs hl hP hS
  have hx := C.1
  have hb := C.2.1
  unfold M_Clerk_faultOfKnown_b54 at hM
  refine lv_istore_n (lv' := [(2, .int s0), (0, .ref (ρ 1))]) hx hb d_Clerk_faultOfKnown_54 rfl hl (by decide) rfl (fun ls hl => ?_)
  refine lv_iload_n hx hb d_Clerk_faultOfKnown_55 rfl (lv_at hl 0 rfl) ?_
  refine lv_if_eq (tgt := 78) hx hb d_Clerk_faultOfKnown_56 (by decide) (fun hc56 => ?_) (fun hc56 => ?_)
  · replace hM := gi_t hc56 hM
    exact t_Clerk_faultOfKnown_b78 C hM hR ls H locs (lv_sub hl [] rfl) hP hS
  · replace hM := gi_f hc56 hM
    refine lv_aload_n hx hb d_Clerk_faultOfKnown_59 rfl (lv_at hl 1 rfl) ?_
    refine g_getR (b := 4) C hP gl_Clerk_21 rfl rfl rfl d_Clerk_faultOfKnown_60 ?_
    refine lv_aload_n hx hb d_Clerk_faultOfKnown_63 rfl (lv_at hl 1 rfl) ?_
    refine g_getI C hP gl_Clerk_42 rfl rfl d_Clerk_faultOfKnown_64 ?_
    obtain ⟨q67, hq67, hM⟩ := gb_some hM
    refine g_backI (g_runV (As := [.int (u.1 1 7)]) C hP (c_Board_isOld C.2.2.2.2.2.2.2.2.1 hq67) gi_Board_isOld gm_Clerk_136 rfl rfl (by decide) (by decide) hl.1 rfl (Nat.le_of_ble_eq_true rfl) d_Clerk_faultOfKnown_67) hS (fun H locs hP hS => ?_)
    refine lv_if_eq (tgt := 78) hx hb d_Clerk_faultOfKnown_70 (by decide) (fun hc70 => ?_) (fun hc70 => ?_)
    · replace hM := gi_t hc70 hM
      exact t_Clerk_faultOfKnown_b78 C hM hR ls H locs (lv_sub hl [] rfl) hP hS
    · replace hM := gi_f hc70 hM
      refine lv_bipush (v := (6 : Int32)) hx hb d_Clerk_faultOfKnown_73 (by decide) ?_
      refine lv_goto (tgt := 79) hx hb d_Clerk_faultOfKnown_75 (by decide) ?_
      exact t_Clerk_faultOfKnown_b79 C hM hR ls H locs (lv_sub hl [] rfl) hP hS
noncomputable def M_Clerk_faultOfKnown_b49 (u : gSt) : Option ((Int32 × gSt)) :=
  M_Clerk_faultOfKnown_b54 (1 : Int32) u
set_option maxHeartbeats 4000000 in
set_option maxRecDepth 100000 in
theorem t_Clerk_faultOfKnown_b49 (C : gX "TermDesk$Clerk" prog_4_method_6_code 3 (some .int) 2 44 R cells slots cy D ρ A p s m args meth c) {u : gSt} {z : (Int32 × gSt)} (hM : M_Clerk_faultOfKnown_b49 u = some z) (hR : gRtI p l e R s m args below meth c Q H0 cells slots cy D ρ A prog_4_method_6_code z.1 z.2) : gAt p l e R s m args below meth c Q H0 cells slots cy D ρ A 3 49 [(0, .ref (ρ 1))] [] u := by
  intro ls H locs hl hP hS
  have hx := C.1
  have hb := C.2.1
  unfold M_Clerk_faultOfKnown_b49 at hM
  refine lv_iconst (v := (1 : Int32)) hx hb d_Clerk_faultOfKnown_49 (by decide) ?_
  refine lv_goto (tgt := 54) hx hb d_Clerk_faultOfKnown_50 (by decide) ?_
  exact t_Clerk_faultOfKnown_b54 C hM hR ls H locs (lv_sub hl [0] rfl) hP hS
noncomputable def M_Clerk_faultOfKnown_b39 (x1 : Int32) (u : gSt) : Option ((Int32 × gSt)) :=
  if x1 = (4 : Int32) then
    (M_Clerk_faultOfKnown_b49 u)
  else
    (if x1 = (5 : Int32) then
      (M_Clerk_faultOfKnown_b49 u)
    else
      (M_Clerk_faultOfKnown_b54 (0 : Int32) u))
set_option maxHeartbeats 4000000 in
set_option maxRecDepth 100000 in
theorem t_Clerk_faultOfKnown_b39 (C : gX "TermDesk$Clerk" prog_4_method_6_code 3 (some .int) 2 44 R cells slots cy D ρ A p s m args meth c) {x1 : Int32} {u : gSt} {z : (Int32 × gSt)} (hM : M_Clerk_faultOfKnown_b39 x1 u = some z) (hR : gRtI p l e R s m args below meth c Q H0 cells slots cy D ρ A prog_4_method_6_code z.1 z.2) : gAt p l e R s m args below meth c Q H0 cells slots cy D ρ A 3 39 [(0, .ref (ρ 1)), (1, .int x1)] [] u := by
  intro ls H locs hl hP hS
  have hx := C.1
  have hb := C.2.1
  unfold M_Clerk_faultOfKnown_b39 at hM
  refine lv_iload_n hx hb d_Clerk_faultOfKnown_39 rfl (lv_at hl 1 rfl) ?_
  refine lv_iconst (v := (4 : Int32)) hx hb d_Clerk_faultOfKnown_40 (by decide) ?_
  refine lv_icmp_eq (tgt := 49) hx hb d_Clerk_faultOfKnown_41 (by decide) (fun hc41 => ?_) (fun hc41 => ?_)
  · replace hM := gi_t hc41 hM
    exact t_Clerk_faultOfKnown_b49 C hM hR ls H locs (lv_sub hl [0] rfl) hP hS
  · replace hM := gi_f hc41 hM
    refine lv_iload_n hx hb d_Clerk_faultOfKnown_44 rfl (lv_at hl 1 rfl) ?_
    refine lv_iconst (v := (5 : Int32)) hx hb d_Clerk_faultOfKnown_45 (by decide) ?_
    refine lv_icmp_ne (tgt := 53) hx hb d_Clerk_faultOfKnown_46 (by decide) (fun hc46 => ?_) (fun hc46 => ?_)
    · replace hM := gi_f hc46 hM
      refine lv_iconst (v := (0 : Int32)) hx hb d_Clerk_faultOfKnown_53 (by decide) ?_
      exact t_Clerk_faultOfKnown_b54 C hM hR ls H locs (lv_sub hl [0] rfl) hP hS
    · replace hM := gi_t hc46 hM
      exact t_Clerk_faultOfKnown_b49 C hM hR ls H locs (lv_sub hl [0] rfl) hP hS
noncomputable def M_Clerk_faultOfKnown (x1 : Int32) (u : gSt) : Option ((Int32 × gSt)) :=
  if x1 = (5 : Int32) then
    ((M_Board_hasTerm (u.1 1 6) u).bind fun q13 =>
    if q13.1 = (0 : Int32) then
      (M_Clerk_faultOfKnown_b39 x1 q13.2)
    else
      ((M_Board_isSameOrAbove (q13.2.1 1 6) (q13.2.1 1 7) q13.2).bind fun q31 =>
      if q31.1 = (0 : Int32) then
        (M_Clerk_faultOfKnown_b39 x1 q31.2)
      else
        (some ((5 : Int32), q31.2))))
  else
    (M_Clerk_faultOfKnown_b39 x1 u)
set_option maxHeartbeats 4000000 in
set_option maxRecDepth 100000 in
theorem t_Clerk_faultOfKnown (C : gX "TermDesk$Clerk" prog_4_method_6_code 3 (some .int) 2 44 R cells slots cy D ρ A p s m args meth c) {x1 : Int32} {u : gSt} {z : (Int32 × gSt)} (hM : M_Clerk_faultOfKnown x1 u = some z) (hR : gRtI p l e R s m args below meth c Q H0 cells slots cy D ρ A prog_4_method_6_code z.1 z.2) : gAt p l e R s m args below meth c Q H0 cells slots cy D ρ A 3 0 [(0, .ref (ρ 1)), (1, .int x1)] [] u := by
  intro ls H locs hl hP hS
  have hx := C.1
  have hb := C.2.1
  unfold M_Clerk_faultOfKnown at hM
  refine lv_iload_n hx hb d_Clerk_faultOfKnown_0 rfl (lv_at hl 1 rfl) ?_
  refine lv_iconst (v := (5 : Int32)) hx hb d_Clerk_faultOfKnown_1 (by decide) ?_
  refine lv_icmp_ne (tgt := 39) hx hb d_Clerk_faultOfKnown_2 (by decide) (fun hc2 => ?_) (fun hc2 => ?_)
  · replace hM := gi_f hc2 hM
    exact t_Clerk_faultOfKnown_b39 C hM hR ls H locs (lv_sub hl [0, 1] rfl) hP hS
  · replace hM := gi_t hc2 hM
    refine lv_aload_n hx hb d_Clerk_faultOfKnown_5 rfl (lv_at hl 0 rfl) ?_
    refine g_getR (b := 4) C hP gl_Clerk_21 rfl rfl rfl d_Clerk_faultOfKnown_6 ?_
    refine lv_aload_n hx hb d_Clerk_faultOfKnown_9 rfl (lv_at hl 0 rfl) ?_
    refine g_getI C hP gl_Clerk_39 rfl rfl d_Clerk_faultOfKnown_10 ?_
    obtain ⟨q13, hq13, hM⟩ := gb_some hM
    refine g_backI (g_runV (As := [.int (u.1 1 6)]) C hP (c_Board_hasTerm C.2.2.2.2.2.2.2.2.1 hq13) gi_Board_hasTerm gm_Clerk_128 rfl rfl (by decide) (by decide) hl.1 rfl (Nat.le_of_ble_eq_true rfl) d_Clerk_faultOfKnown_13) hS (fun H locs hP hS => ?_)
    refine lv_if_eq (tgt := 39) hx hb d_Clerk_faultOfKnown_16 (by decide) (fun hc16 => ?_) (fun hc16 => ?_)
    · replace hM := gi_t hc16 hM
      exact t_Clerk_faultOfKnown_b39 C hM hR ls H locs (lv_sub hl [0, 1] rfl) hP hS
    · replace hM := gi_f hc16 hM
      refine lv_aload_n hx hb d_Clerk_faultOfKnown_19 rfl (lv_at hl 0 rfl) ?_
      refine g_getR (b := 4) C hP gl_Clerk_21 rfl rfl rfl d_Clerk_faultOfKnown_20 ?_
      refine lv_aload_n hx hb d_Clerk_faultOfKnown_23 rfl (lv_at hl 0 rfl) ?_
      refine g_getI C hP gl_Clerk_39 rfl rfl d_Clerk_faultOfKnown_24 ?_
      refine lv_aload_n hx hb d_Clerk_faultOfKnown_27 rfl (lv_at hl 0 rfl) ?_
      refine g_getI C hP gl_Clerk_42 rfl rfl d_Clerk_faultOfKnown_28 ?_
      obtain ⟨q31, hq31, hM⟩ := gb_some hM
      refine g_backI (g_runV (As := [.int (q13.2.1 1 6), .int (q13.2.1 1 7)]) C hP (c_Board_isSameOrAbove C.2.2.2.2.2.2.2.2.1 hq31) gi_Board_isSameOrAbove gm_Clerk_132 rfl rfl (by decide) (by decide) hl.1 rfl (Nat.le_of_ble_eq_true rfl) d_Clerk_faultOfKnown_31) hS (fun H locs hP hS => ?_)
      refine lv_if_eq (tgt := 39) hx hb d_Clerk_faultOfKnown_34 (by decide) (fun hc34 => ?_) (fun hc34 => ?_)
      · replace hM := gi_t hc34 hM
        exact t_Clerk_faultOfKnown_b39 C hM hR ls H locs (lv_sub hl [0, 1] rfl) hP hS
      · replace hM := gi_f hc34 hM
        refine lv_iconst (v := (5 : Int32)) hx hb d_Clerk_faultOfKnown_37 (by decide) ?_
        obtain rfl := Option.some.inj hM
        exact hR _ ls H locs d_Clerk_faultOfKnown_38 hP hS
theorem c_Clerk_faultOfKnown {l : Launch} {cy : Nat → ClassId} {D : va_G} {ρ : Nat → Nat} {A : Nat → Prop} (hD : gD ρ A) {x1 : Int32} {u : gSt} {z : (Int32 × gSt)} (hM : M_Clerk_faultOfKnown x1 u = some z) : gCtI l y_Clerk_faultOfKnown prog_4_method_6_code 3 (some .int) 2 44 cy D ρ A [.ref (ρ 1), .int x1] u z.1 z.2 :=
  g_met (by decide) hD (Nat.le_of_ble_eq_true rfl) (fun p e s m below meth c ls X hl hP => t_Clerk_faultOfKnown X hM (fun pc ls H locs hd hP hS => g_iret X hP hS hd) ls _ [] hl hP va_S.rf)
end
section
variable {p : Program} {l : Launch} {e : Env} {R : Room} {s : State} {m : MethodId} {args : Array Value} {below : List Frame} {meth : Method} {c : Code} {Q : State → Prop} {H0 : Heap} {cells slots : Nat} {cy : Nat → ClassId} {D : va_G} {ρ : Nat → Nat} {A : Nat → Prop}
def y_Clerk_readWord : MethodName := ⟨"TermDesk$Clerk", "readWord", "(I)I"⟩
theorem gi_Clerk_readWord : gMi y_Clerk_readWord prog_4_method_5_code 8 (some .int) 1 1 := ⟨(gWs_at 500 (by decide +kernel) (by decide +kernel)), (gWs_at 499 (by decide +kernel) (by decide +kernel)), (gWs_at 7 (by decide +kernel) (by decide +kernel)), (gWs_at 118 (by decide +kernel) (by decide +kernel)), ⟨by decide +kernel, by decide +kernel, by decide +kernel⟩, _, _, rfl⟩
theorem gm_Clerk_79 : gMk "TermDesk$Clerk" 79 y_Clerk_readWord := Or.inl (gWs_at 497 (by decide +kernel) (by decide +kernel))
theorem d_Clerk_readWord_0 : decode prog_4_method_5_code 0 = .ok (.aload_n 0, 1) := by decide +kernel
theorem d_Clerk_readWord_1 : decode prog_4_method_5_code 1 = .ok (.getfield 12, 3) := by decide +kernel
theorem d_Clerk_readWord_4 : decode prog_4_method_5_code 4 = .ok (.invokevirtual 66, 3) := by decide +kernel
theorem d_Clerk_readWord_7 : decode prog_4_method_5_code 7 = .ok (.ifCond .eq 13, 3) := by decide +kernel
theorem d_Clerk_readWord_10 : decode prog_4_method_5_code 10 = .ok (.aload_n 0, 1) := by decide +kernel
theorem d_Clerk_readWord_11 : decode prog_4_method_5_code 11 = .ok (.getfield 12, 3) := by decide +kernel
theorem d_Clerk_readWord_14 : decode prog_4_method_5_code 14 = .ok (.invokevirtual 102, 3) := by decide +kernel
theorem d_Clerk_readWord_17 : decode prog_4_method_5_code 17 = .ok (.ifCond .ne 5, 3) := by decide +kernel
theorem d_Clerk_readWord_20 : decode prog_4_method_5_code 20 = .ok (.iconst 1, 1) := by decide +kernel
theorem d_Clerk_readWord_21 : decode prog_4_method_5_code 21 = .ok (.ireturn, 1) := by decide +kernel
theorem d_Clerk_readWord_22 : decode prog_4_method_5_code 22 = .ok (.aload_n 0, 1) := by decide +kernel
theorem d_Clerk_readWord_23 : decode prog_4_method_5_code 23 = .ok (.getfield 12, 3) := by decide +kernel
theorem d_Clerk_readWord_26 : decode prog_4_method_5_code 26 = .ok (.invokevirtual 105, 3) := by decide +kernel
theorem d_Clerk_readWord_29 : decode prog_4_method_5_code 29 = .ok (.ifCond .ne 5, 3) := by decide +kernel
theorem d_Clerk_readWord_32 : decode prog_4_method_5_code 32 = .ok (.iconst 2, 1) := by decide +kernel
theorem d_Clerk_readWord_33 : decode prog_4_method_5_code 33 = .ok (.ireturn, 1) := by decide +kernel
theorem d_Clerk_readWord_34 : decode prog_4_method_5_code 34 = .ok (.aload_n 0, 1) := by decide +kernel
theorem d_Clerk_readWord_35 : decode prog_4_method_5_code 35 = .ok (.getfield 12, 3) := by decide +kernel
theorem d_Clerk_readWord_38 : decode prog_4_method_5_code 38 = .ok (.iconst 0, 1) := by decide +kernel
theorem d_Clerk_readWord_39 : decode prog_4_method_5_code 39 = .ok (.invokevirtual 108, 3) := by decide +kernel
theorem d_Clerk_readWord_42 : decode prog_4_method_5_code 42 = .ok (.lstore_n 2, 1) := by decide +kernel
theorem d_Clerk_readWord_43 : decode prog_4_method_5_code 43 = .ok (.aload_n 0, 1) := by decide +kernel
theorem d_Clerk_readWord_44 : decode prog_4_method_5_code 44 = .ok (.getfield 12, 3) := by decide +kernel
theorem d_Clerk_readWord_47 : decode prog_4_method_5_code 47 = .ok (.bipush 6, 2) := by decide +kernel
theorem d_Clerk_readWord_49 : decode prog_4_method_5_code 49 = .ok (.invokevirtual 108, 3) := by decide +kernel
theorem d_Clerk_readWord_52 : decode prog_4_method_5_code 52 = .ok (.lstore 4, 2) := by decide +kernel
theorem d_Clerk_readWord_54 : decode prog_4_method_5_code 54 = .ok (.iload_n 1, 1) := by decide +kernel
theorem d_Clerk_readWord_55 : decode prog_4_method_5_code 55 = .ok (.iconst 2, 1) := by decide +kernel
theorem d_Clerk_readWord_56 : decode prog_4_method_5_code 56 = .ok (.if_icmp .eq 9, 3) := by decide +kernel
theorem d_Clerk_readWord_59 : decode prog_4_method_5_code 59 = .ok (.iload_n 1, 1) := by decide +kernel
theorem d_Clerk_readWord_60 : decode prog_4_method_5_code 60 = .ok (.bipush 6, 2) := by decide +kernel
theorem d_Clerk_readWord_62 : decode prog_4_method_5_code 62 = .ok (.if_icmp .ne 7, 3) := by decide +kernel
theorem d_Clerk_readWord_65 : decode prog_4_method_5_code 65 = .ok (.iconst 1, 1) := by decide +kernel
theorem d_Clerk_readWord_66 : decode prog_4_method_5_code 66 = .ok (.goto 4, 3) := by decide +kernel
theorem d_Clerk_readWord_69 : decode prog_4_method_5_code 69 = .ok (.iconst 0, 1) := by decide +kernel
theorem d_Clerk_readWord_70 : decode prog_4_method_5_code 70 = .ok (.istore 6, 2) := by decide +kernel
theorem d_Clerk_readWord_72 : decode prog_4_method_5_code 72 = .ok (.iload 6, 2) := by decide +kernel
theorem d_Clerk_readWord_74 : decode prog_4_method_5_code 74 = .ok (.ifCond .eq 13, 3) := by decide +kernel
theorem d_Clerk_readWord_77 : decode prog_4_method_5_code 77 = .ok (.aload_n 0, 1) := by decide +kernel
theorem d_Clerk_readWord_78 : decode prog_4_method_5_code 78 = .ok (.getfield 21, 3) := by decide +kernel
theorem d_Clerk_readWord_81 : decode prog_4_method_5_code 81 = .ok (.getfield 112, 3) := by decide +kernel
theorem d_Clerk_readWord_84 : decode prog_4_method_5_code 84 = .ok (.goto 10, 3) := by decide +kernel
theorem d_Clerk_readWord_87 : decode prog_4_method_5_code 87 = .ok (.aload_n 0, 1) := by decide +kernel
theorem d_Clerk_readWord_88 : decode prog_4_method_5_code 88 = .ok (.getfield 21, 3) := by decide +kernel
theorem d_Clerk_readWord_91 : decode prog_4_method_5_code 91 = .ok (.getfield 116, 3) := by decide +kernel
theorem d_Clerk_readWord_94 : decode prog_4_method_5_code 94 = .ok (.lload_n 2, 1) := by decide +kernel
theorem d_Clerk_readWord_95 : decode prog_4_method_5_code 95 = .ok (.lload 4, 2) := by decide +kernel
theorem d_Clerk_readWord_97 : decode prog_4_method_5_code 97 = .ok (.invokevirtual 119, 3) := by decide +kernel
theorem d_Clerk_readWord_100 : decode prog_4_method_5_code 100 = .ok (.istore 7, 2) := by decide +kernel
theorem d_Clerk_readWord_102 : decode prog_4_method_5_code 102 = .ok (.iload_n 1, 1) := by decide +kernel
theorem d_Clerk_readWord_103 : decode prog_4_method_5_code 103 = .ok (.iconst 1, 1) := by decide +kernel
theorem d_Clerk_readWord_104 : decode prog_4_method_5_code 104 = .ok (.if_icmp .eq 8, 3) := by decide +kernel
theorem d_Clerk_readWord_107 : decode prog_4_method_5_code 107 = .ok (.iload_n 1, 1) := by decide +kernel
theorem d_Clerk_readWord_108 : decode prog_4_method_5_code 108 = .ok (.iconst 2, 1) := by decide +kernel
theorem d_Clerk_readWord_109 : decode prog_4_method_5_code 109 = .ok (.if_icmp .ne 26, 3) := by decide +kernel
theorem d_Clerk_readWord_112 : decode prog_4_method_5_code 112 = .ok (.aload_n 0, 1) := by decide +kernel
theorem d_Clerk_readWord_113 : decode prog_4_method_5_code 113 = .ok (.lload_n 2, 1) := by decide +kernel
theorem d_Clerk_readWord_114 : decode prog_4_method_5_code 114 = .ok (.putfield 32, 3) := by decide +kernel
theorem d_Clerk_readWord_117 : decode prog_4_method_5_code 117 = .ok (.aload_n 0, 1) := by decide +kernel
theorem d_Clerk_readWord_118 : decode prog_4_method_5_code 118 = .ok (.lload 4, 2) := by decide +kernel
theorem d_Clerk_readWord_120 : decode prog_4_method_5_code 120 = .ok (.putfield 36, 3) := by decide +kernel
theorem d_Clerk_readWord_123 : decode prog_4_method_5_code 123 = .ok (.iload 7, 2) := by decide +kernel
theorem d_Clerk_readWord_125 : decode prog_4_method_5_code 125 = .ok (.iconst (-1), 1) := by decide +kernel
theorem d_Clerk_readWord_126 : decode prog_4_method_5_code 126 = .ok (.if_icmp .ne 7, 3) := by decide +kernel
theorem d_Clerk_readWord_129 : decode prog_4_method_5_code 129 = .ok (.iconst 0, 1) := by decide +kernel
theorem d_Clerk_readWord_130 : decode prog_4_method_5_code 130 = .ok (.goto 4, 3) := by decide +kernel
theorem d_Clerk_readWord_133 : decode prog_4_method_5_code 133 = .ok (.iconst 4, 1) := by decide +kernel
theorem d_Clerk_readWord_134 : decode prog_4_method_5_code 134 = .ok (.ireturn, 1) := by decide +kernel
theorem d_Clerk_readWord_135 : decode prog_4_method_5_code 135 = .ok (.aload_n 0, 1) := by decide +kernel
theorem d_Clerk_readWord_136 : decode prog_4_method_5_code 136 = .ok (.aload_n 0, 1) := by decide +kernel
theorem d_Clerk_readWord_137 : decode prog_4_method_5_code 137 = .ok (.getfield 42, 3) := by decide +kernel
theorem d_Clerk_readWord_140 : decode prog_4_method_5_code 140 = .ok (.putfield 39, 3) := by decide +kernel
theorem d_Clerk_readWord_143 : decode prog_4_method_5_code 143 = .ok (.aload_n 0, 1) := by decide +kernel
theorem d_Clerk_readWord_144 : decode prog_4_method_5_code 144 = .ok (.iload 7, 2) := by decide +kernel
theorem d_Clerk_readWord_146 : decode prog_4_method_5_code 146 = .ok (.putfield 42, 3) := by decide +kernel
theorem d_Clerk_readWord_149 : decode prog_4_method_5_code 149 = .ok (.iload 7, 2) := by decide +kernel
theorem d_Clerk_readWord_151 : decode prog_4_method_5_code 151 = .ok (.iconst (-1), 1) := by decide +kernel
theorem d_Clerk_readWord_152 : decode prog_4_method_5_code 152 = .ok (.if_icmp .ne 7, 3) := by decide +kernel
theorem d_Clerk_readWord_155 : decode prog_4_method_5_code 155 = .ok (.iconst 3, 1) := by decide +kernel
theorem d_Clerk_readWord_156 : decode prog_4_method_5_code 156 = .ok (.goto 8, 3) := by decide +kernel
theorem d_Clerk_readWord_159 : decode prog_4_method_5_code 159 = .ok (.aload_n 0, 1) := by decide +kernel
theorem d_Clerk_readWord_160 : decode prog_4_method_5_code 160 = .ok (.iload_n 1, 1) := by decide +kernel
theorem d_Clerk_readWord_161 : decode prog_4_method_5_code 161 = .ok (.invokevirtual 125, 3) := by decide +kernel
theorem d_Clerk_readWord_164 : decode prog_4_method_5_code 164 = .ok (.ireturn, 1) := by decide +kernel
noncomputable def M_Clerk_readWord_b20 (u : gSt) : Option ((Int32 × gSt)) :=
  some ((1 : Int32), u)
set_option maxHeartbeats 4000000 in
set_option maxRecDepth 100000 in
theorem t_Clerk_readWord_b20 (C : gX "TermDesk$Clerk" prog_4_method_5_code 8 (some .int) 3 66 R cells slots cy D ρ A p s m args meth c) {u : gSt} {z : (Int32 × gSt)} (hM : M_Clerk_readWord_b20 u = some z) (hR : gRtI p l e R s m args below meth c Q H0 cells slots cy D ρ A prog_4_method_5_code z.1 z.2) : gAt p l e R s m args below meth c Q H0 cells slots cy D ρ A 8 20 [] [] u := by
  intro ls H locs hl hP hS
  have hx := C.1
  have hb := C.2.1
  unfold M_Clerk_readWord_b20 at hM
  refine lv_iconst (v := (1 : Int32)) hx hb d_Clerk_readWord_20 (by decide) ?_
  obtain rfl := Option.some.inj hM
  exact hR _ ls H locs d_Clerk_readWord_21 hP hS
noncomputable def M_Clerk_readWord_b134 (s0 : Int32) (u : gSt) : Option ((Int32 × gSt)) :=
  some (s0, u)
set_option maxHeartbeats 4000000 in
set_option maxRecDepth 100000 in
theorem t_Clerk_readWord_b134 (C : gX "TermDesk$Clerk" prog_4_method_5_code 8 (some .int) 3 66 R cells slots cy D ρ A p s m args meth c) {s0 : Int32} {u : gSt} {z : (Int32 × gSt)} (hM : M_Clerk_readWord_b134 s0 u = some z) (hR : gRtI p l e R s m args below meth c Q H0 cells slots cy D ρ A prog_4_method_5_code z.1 z.2) : gAt p l e R s m args below meth c Q H0 cells slots cy D ρ A 8 134 [] [.int s0] u := by
  intro ls H locs hl hP hS
  have hx := C.1
  have hb := C.2.1
  unfold M_Clerk_readWord_b134 at hM
  obtain rfl := Option.some.inj hM
  exact hR _ ls H locs d_Clerk_readWord_134 hP hS
noncomputable def M_Clerk_readWord_b112 (y2 : Int64) (y4 : Int64) (x7 : Int32) (u : gSt) : Option ((Int32 × gSt)) :=
  (some (gsG u 1 4 y2)).bind fun u114 =>
  (some (gsG u114 1 5 y4)).bind fun u120 =>
  if x7 = (-1 : Int32) then
    (M_Clerk_readWord_b134 (0 : Int32) u120)
  else
    (M_Clerk_readWord_b134 (4 : Int32) u120)
set_option maxHeartbeats 4000000 in
set_option maxRecDepth 100000 in
theorem t_Clerk_readWord_b112 (C : gX "TermDesk$Clerk" prog_4_method_5_code 8 (some .int) 3 66 R cells slots cy D ρ A p s m args meth c) {y2 : Int64} {y4 : Int64} {x7 : Int32} {u : gSt} {z : (Int32 × gSt)} (hM : M_Clerk_readWord_b112 y2 y4 x7 u = some z) (hR : gRtI p l e R s m args below meth c Q H0 cells slots cy D ρ A prog_4_method_5_code z.1 z.2) : gAt p l e R s m args below meth c Q H0 cells slots cy D ρ A 8 112 [(0, .ref (ρ 1)), (2, .long y2), (4, .long y4), (7, .int x7)] [] u := by
  intro ls H locs hl hP hS
  have hx := C.1
  have hb := C.2.1
  unfold M_Clerk_readWord_b112 at hM
  refine lv_aload_n hx hb d_Clerk_readWord_112 rfl (lv_at hl 0 rfl) ?_
  refine lv_lload_n hx hb d_Clerk_readWord_113 rfl (lv_at hl 1 rfl) ?_
  obtain ⟨u114, e114, hM⟩ := gb_some hM
  refine g_putL C hP hS gl_Clerk_32 rfl rfl gq_1_4 d_Clerk_readWord_114 (fun H locs hP hS => ?_)
  rw [Option.some.inj e114] at hP
  refine lv_aload_n hx hb d_Clerk_readWord_117 rfl (lv_at hl 0 rfl) ?_
  refine lv_lload hx hb d_Clerk_readWord_118 (lv_at hl 2 rfl) ?_
  obtain ⟨u120, e120, hM⟩ := gb_some hM
  refine g_putL C hP hS gl_Clerk_36 rfl rfl gq_1_5 d_Clerk_readWord_120 (fun H locs hP hS => ?_)
  rw [Option.some.inj e120] at hP
  refine lv_iload hx hb d_Clerk_readWord_123 (lv_at hl 3 rfl) ?_
  refine lv_iconst (v := (-1 : Int32)) hx hb d_Clerk_readWord_125 (by decide) ?_
  refine lv_icmp_ne (tgt := 133) hx hb d_Clerk_readWord_126 (by decide) (fun hc126 => ?_) (fun hc126 => ?_)
  · replace hM := gi_f hc126 hM
    refine lv_iconst (v := (4 : Int32)) hx hb d_Clerk_readWord_133 (by decide) ?_
    exact t_Clerk_readWord_b134 C hM hR ls H locs (lv_sub hl [] rfl) hP hS
  · replace hM := gi_t hc126 hM
    refine lv_iconst (v := (0 : Int32)) hx hb d_Clerk_readWord_129 (by decide) ?_
    refine lv_goto (tgt := 134) hx hb d_Clerk_readWord_130 (by decide) ?_
    exact t_Clerk_readWord_b134 C hM hR ls H locs (lv_sub hl [] rfl) hP hS
noncomputable def M_Clerk_readWord_b164 (s0 : Int32) (u : gSt) : Option ((Int32 × gSt)) :=
  some (s0, u)
set_option maxHeartbeats 4000000 in
set_option maxRecDepth 100000 in
theorem t_Clerk_readWord_b164 (C : gX "TermDesk$Clerk" prog_4_method_5_code 8 (some .int) 3 66 R cells slots cy D ρ A p s m args meth c) {s0 : Int32} {u : gSt} {z : (Int32 × gSt)} (hM : M_Clerk_readWord_b164 s0 u = some z) (hR : gRtI p l e R s m args below meth c Q H0 cells slots cy D ρ A prog_4_method_5_code z.1 z.2) : gAt p l e R s m args below meth c Q H0 cells slots cy D ρ A 8 164 [] [.int s0] u := by
  intro ls H locs hl hP hS
  have hx := C.1
  have hb := C.2.1
  unfold M_Clerk_readWord_b164 at hM
  obtain rfl := Option.some.inj hM
  exact hR _ ls H locs d_Clerk_readWord_164 hP hS
noncomputable def M_Clerk_readWord_b94 (x1 : Int32) (y2 : Int64) (y4 : Int64) (s0 : Nat) (u : gSt) : Option ((Int32 × gSt)) :=
  gc (gK s0 == 4) <| (M_NameList_ownerOf s0 y2 y4 u).bind fun q97 =>
  if x1 = (1 : Int32) then
    (M_Clerk_readWord_b112 y2 y4 q97.1 q97.2)
  else
    (if x1 = (2 : Int32) then
      (M_Clerk_readWord_b112 y2 y4 q97.1 q97.2)
    else
      ((some (gsF q97.2 1 6 (q97.2.1 1 7))).bind fun u140 =>
      (some (gsF u140 1 7 q97.1)).bind fun u146 =>
      if q97.1 = (-1 : Int32) then
        (M_Clerk_readWord_b164 (3 : Int32) u146)
      else
        ((M_Clerk_faultOfKnown x1 u146).bind fun q161 =>
        M_Clerk_readWord_b164 q161.1 q161.2)))
set_option maxHeartbeats 4000000 in
set_option maxRecDepth 100000 in
theorem t_Clerk_readWord_b94 (C : gX "TermDesk$Clerk" prog_4_method_5_code 8 (some .int) 3 66 R cells slots cy D ρ A p s m args meth c) {x1 : Int32} {y2 : Int64} {y4 : Int64} {s0 : Nat} {u : gSt} {z : (Int32 × gSt)} (hM : M_Clerk_readWord_b94 x1 y2 y4 s0 u = some z) (hR : gRtI p l e R s m args below meth c Q H0 cells slots cy D ρ A prog_4_method_5_code z.1 z.2) : gAt p l e R s m args below meth c Q H0 cells slots cy D ρ A 8 94 [(0, .ref (ρ 1)), (1, .int x1), (2, .long y2), (4, .long y4)] [.ref (ρ s0)] u := by
  intro ls H locs hl hP hS
  have hx := C.1
  have hb := C.2.1
  unfold M_Clerk_readWord_b94 at hM
  refine lv_lload_n hx hb d_Clerk_readWord_94 rfl (lv_at hl 2 rfl) ?_
  refine lv_lload hx hb d_Clerk_readWord_95 (lv_at hl 3 rfl) ?_
  obtain ⟨h97, hM⟩ := gc_some hM
  obtain ⟨q97, hq97, hM⟩ := gb_some hM
  refine g_backI (g_runV (As := [.long y2, .long y4]) C hP (c_NameList_ownerOf C.2.2.2.2.2.2.2.2.1 hq97) gi_NameList_ownerOf gm_Clerk_119 (eq_of_beq h97) rfl (by decide) (by decide) hl.1 rfl (Nat.le_of_ble_eq_true rfl) d_Clerk_readWord_97) hS (fun H locs hP hS => ?_)
  refine lv_istore (lv' := [(7, .int q97.1), (0, .ref (ρ 1)), (1, .int x1), (2, .long y2), (4, .long y4)]) hx hb d_Clerk_readWord_100 hl (by decide) rfl (fun ls hl => ?_)
  refine lv_iload_n hx hb d_Clerk_readWord_102 rfl (lv_at hl 2 rfl) ?_
  refine lv_iconst (v := (1 : Int32)) hx hb d_Clerk_readWord_103 (by decide) ?_
  refine lv_icmp_eq (tgt := 112) hx hb d_Clerk_readWord_104 (by decide) (fun hc104 => ?_) (fun hc104 => ?_)
  · replace hM := gi_t hc104 hM
    exact t_Clerk_readWord_b112 C hM hR ls H locs (lv_sub hl [1, 3, 4, 0] rfl) hP hS
  · replace hM := gi_f hc104 hM
    refine lv_iload_n hx hb d_Clerk_readWord_107 rfl (lv_at hl 2 rfl) ?_
    refine lv_iconst (v := (2 : Int32)) hx hb d_Clerk_readWord_108 (by decide) ?_
    refine lv_icmp_ne (tgt := 135) hx hb d_Clerk_readWord_109 (by decide) (fun hc109 => ?_) (fun hc109 => ?_)
    · replace hM := gi_f hc109 hM
      refine lv_aload_n hx hb d_Clerk_readWord_135 rfl (lv_at hl 1 rfl) ?_
      refine lv_aload_n hx hb d_Clerk_readWord_136 rfl (lv_at hl 1 rfl) ?_
      refine g_getI C hP gl_Clerk_42 rfl rfl d_Clerk_readWord_137 ?_
      obtain ⟨u140, e140, hM⟩ := gb_some hM
      refine g_putI C hP hS gl_Clerk_39 rfl rfl gq_1_6 d_Clerk_readWord_140 (fun H locs hP hS => ?_)
      rw [Option.some.inj e140] at hP
      refine lv_aload_n hx hb d_Clerk_readWord_143 rfl (lv_at hl 1 rfl) ?_
      refine lv_iload hx hb d_Clerk_readWord_144 (lv_at hl 0 rfl) ?_
      obtain ⟨u146, e146, hM⟩ := gb_some hM
      refine g_putI C hP hS gl_Clerk_42 rfl rfl gq_1_7 d_Clerk_readWord_146 (fun H locs hP hS => ?_)
      rw [Option.some.inj e146] at hP
      refine lv_iload hx hb d_Clerk_readWord_149 (lv_at hl 0 rfl) ?_
      refine lv_iconst (v := (-1 : Int32)) hx hb d_Clerk_readWord_151 (by decide) ?_
      refine lv_icmp_ne (tgt := 159) hx hb d_Clerk_readWord_152 (by decide) (fun hc152 => ?_) (fun hc152 => ?_)
      · replace hM := gi_f hc152 hM
        refine lv_aload_n hx hb d_Clerk_readWord_159 rfl (lv_at hl 1 rfl) ?_
        refine lv_iload_n hx hb d_Clerk_readWord_160 rfl (lv_at hl 2 rfl) ?_
        obtain ⟨q161, hq161, hM⟩ := gb_some hM
        refine g_backI (g_runV (As := [.int x1]) C hP (c_Clerk_faultOfKnown C.2.2.2.2.2.2.2.2.1 hq161) gi_Clerk_faultOfKnown gm_Clerk_125 rfl rfl (by decide) (by decide) hl.1 rfl (Nat.le_of_ble_eq_true rfl) d_Clerk_readWord_161) hS (fun H locs hP hS => ?_)
        exact t_Clerk_readWord_b164 C hM hR ls H locs (lv_sub hl [] rfl) hP hS
      · replace hM := gi_t hc152 hM
        refine lv_iconst (v := (3 : Int32)) hx hb d_Clerk_readWord_155 (by decide) ?_
        refine lv_goto (tgt := 164) hx hb d_Clerk_readWord_156 (by decide) ?_
        exact t_Clerk_readWord_b164 C hM hR ls H locs (lv_sub hl [] rfl) hP hS
    · replace hM := gi_t hc109 hM
      exact t_Clerk_readWord_b112 C hM hR ls H locs (lv_sub hl [1, 3, 4, 0] rfl) hP hS
noncomputable def M_Clerk_readWord_b70 (x1 : Int32) (y2 : Int64) (y4 : Int64) (s0 : Int32) (u : gSt) : Option ((Int32 × gSt)) :=
  if s0 = (0 : Int32) then
    (M_Clerk_readWord_b94 x1 y2 y4 5 u)
  else
    (M_Clerk_readWord_b94 x1 y2 y4 9 u)
set_option maxHeartbeats 4000000 in
set_option maxRecDepth 100000 in
theorem t_Clerk_readWord_b70 (C : gX "TermDesk$Clerk" prog_4_method_5_code 8 (some .int) 3 66 R cells slots cy D ρ A p s m args meth c) {x1 : Int32} {y2 : Int64} {y4 : Int64} {s0 : Int32} {u : gSt} {z : (Int32 × gSt)} (hM : M_Clerk_readWord_b70 x1 y2 y4 s0 u = some z) (hR : gRtI p l e R s m args below meth c Q H0 cells slots cy D ρ A prog_4_method_5_code z.1 z.2) : gAt p l e R s m args below meth c Q H0 cells slots cy D ρ A 8 70 [(0, .ref (ρ 1)), (1, .int x1), (2, .long y2), (4, .long y4)] [.int s0] u := by
  intro ls H locs hl hP hS
  have hx := C.1
  have hb := C.2.1
  unfold M_Clerk_readWord_b70 at hM
  refine lv_istore (lv' := [(6, .int s0), (0, .ref (ρ 1)), (1, .int x1), (2, .long y2), (4, .long y4)]) hx hb d_Clerk_readWord_70 hl (by decide) rfl (fun ls hl => ?_)
  refine lv_iload hx hb d_Clerk_readWord_72 (lv_at hl 0 rfl) ?_
  refine lv_if_eq (tgt := 87) hx hb d_Clerk_readWord_74 (by decide) (fun hc74 => ?_) (fun hc74 => ?_)
  · replace hM := gi_t hc74 hM
    refine lv_aload_n hx hb d_Clerk_readWord_87 rfl (lv_at hl 1 rfl) ?_
    refine g_getR (b := 4) C hP gl_Clerk_21 rfl rfl rfl d_Clerk_readWord_88 ?_
    refine g_getR (b := 5) C hP gl_Clerk_116 rfl rfl rfl d_Clerk_readWord_91 ?_
    exact t_Clerk_readWord_b94 C hM hR ls H locs (lv_sub hl [1, 2, 3, 4] rfl) hP hS
  · replace hM := gi_f hc74 hM
    refine lv_aload_n hx hb d_Clerk_readWord_77 rfl (lv_at hl 1 rfl) ?_
    refine g_getR (b := 4) C hP gl_Clerk_21 rfl rfl rfl d_Clerk_readWord_78 ?_
    refine g_getR (b := 9) C hP gl_Clerk_112 rfl rfl rfl d_Clerk_readWord_81 ?_
    refine lv_goto (tgt := 94) hx hb d_Clerk_readWord_84 (by decide) ?_
    exact t_Clerk_readWord_b94 C hM hR ls H locs (lv_sub hl [1, 2, 3, 4] rfl) hP hS
noncomputable def M_Clerk_readWord_b65 (x1 : Int32) (y2 : Int64) (y4 : Int64) (u : gSt) : Option ((Int32 × gSt)) :=
  M_Clerk_readWord_b70 x1 y2 y4 (1 : Int32) u
set_option maxHeartbeats 4000000 in
set_option maxRecDepth 100000 in
theorem t_Clerk_readWord_b65 (C : gX "TermDesk$Clerk" prog_4_method_5_code 8 (some .int) 3 66 R cells slots cy D ρ A p s m args meth c) {x1 : Int32} {y2 : Int64} {y4 : Int64} {u : gSt} {z : (Int32 × gSt)} (hM : M_Clerk_readWord_b65 x1 y2 y4 u = some z) (hR : gRtI p l e R s m args below meth c Q H0 cells slots cy D ρ A prog_4_method_5_code z.1 z.2) : gAt p l e R s m args below meth c Q H0 cells slots cy D ρ A 8 65 [(0, .ref (ρ 1)), (1, .int x1), (2, .long y2), (4, .long y4)] [] u := by
  intro ls H locs hl hP hS
  have hx := C.1
  have hb := C.2.1
  unfold M_Clerk_readWord_b65 at hM
  refine lv_iconst (v := (1 : Int32)) hx hb d_Clerk_readWord_65 (by decide) ?_
  refine lv_goto (tgt := 70) hx hb d_Clerk_readWord_66 (by decide) ?_
  exact t_Clerk_readWord_b70 C hM hR ls H locs (lv_sub hl [0, 1, 2, 3] rfl) hP hS
noncomputable def M_Clerk_readWord (x1 : Int32) (u : gSt) : Option ((Int32 × gSt)) :=
  (M_Text_openWord u).bind fun q4 =>
  if q4.1 = (0 : Int32) then
    (M_Clerk_readWord_b20 q4.2)
  else
    ((M_Text_wordLength q4.2).bind fun q14 =>
    if q14.1 = (0 : Int32) then
      (M_Clerk_readWord_b20 q14.2)
    else
      ((M_Text_wordIsName q14.2).bind fun q26 =>
      if q26.1 = (0 : Int32) then
        (some ((2 : Int32), q26.2))
      else
        ((M_Text_wordHalf (0 : Int32) q26.2).bind fun q39 =>
        (M_Text_wordHalf (6 : Int32) q39.2).bind fun q49 =>
        if x1 = (2 : Int32) then
          (M_Clerk_readWord_b65 x1 q39.1 q49.1 q49.2)
        else
          (if x1 = (6 : Int32) then
            (M_Clerk_readWord_b65 x1 q39.1 q49.1 q49.2)
          else
            (M_Clerk_readWord_b70 x1 q39.1 q49.1 (0 : Int32) q49.2)))))
set_option maxHeartbeats 4000000 in
set_option maxRecDepth 100000 in
theorem t_Clerk_readWord (C : gX "TermDesk$Clerk" prog_4_method_5_code 8 (some .int) 3 66 R cells slots cy D ρ A p s m args meth c) {x1 : Int32} {u : gSt} {z : (Int32 × gSt)} (hM : M_Clerk_readWord x1 u = some z) (hR : gRtI p l e R s m args below meth c Q H0 cells slots cy D ρ A prog_4_method_5_code z.1 z.2) : gAt p l e R s m args below meth c Q H0 cells slots cy D ρ A 8 0 [(0, .ref (ρ 1)), (1, .int x1)] [] u := by
  intro ls H locs hl hP hS
  have hx := C.1
  have hb := C.2.1
  unfold M_Clerk_readWord at hM
  refine lv_aload_n hx hb d_Clerk_readWord_0 rfl (lv_at hl 0 rfl) ?_
  refine g_getR (b := 2) C hP gl_Clerk_12 rfl rfl rfl d_Clerk_readWord_1 ?_
  obtain ⟨q4, hq4, hM⟩ := gb_some hM
  refine g_backI (g_runV (As := []) C hP (c_Text_openWord C.2.2.2.2.2.2.2.2.1 hq4) gi_Text_openWord gm_Clerk_66 rfl rfl (by decide) (by decide) hl.1 rfl (Nat.le_of_ble_eq_true rfl) d_Clerk_readWord_4) hS (fun H locs hP hS => ?_)
  refine lv_if_eq (tgt := 20) hx hb d_Clerk_readWord_7 (by decide) (fun hc7 => ?_) (fun hc7 => ?_)
  · replace hM := gi_t hc7 hM
    exact t_Clerk_readWord_b20 C hM hR ls H locs (lv_sub hl [] rfl) hP hS
  · replace hM := gi_f hc7 hM
    refine lv_aload_n hx hb d_Clerk_readWord_10 rfl (lv_at hl 0 rfl) ?_
    refine g_getR (b := 2) C hP gl_Clerk_12 rfl rfl rfl d_Clerk_readWord_11 ?_
    obtain ⟨q14, hq14, hM⟩ := gb_some hM
    refine g_backI (g_runV (As := []) C hP (c_Text_wordLength C.2.2.2.2.2.2.2.2.1 hq14) gi_Text_wordLength gm_Clerk_102 rfl rfl (by decide) (by decide) hl.1 rfl (Nat.le_of_ble_eq_true rfl) d_Clerk_readWord_14) hS (fun H locs hP hS => ?_)
    refine lv_if_ne (tgt := 22) hx hb d_Clerk_readWord_17 (by decide) (fun hc17 => ?_) (fun hc17 => ?_)
    · replace hM := gi_f hc17 hM
      refine lv_aload_n hx hb d_Clerk_readWord_22 rfl (lv_at hl 0 rfl) ?_
      refine g_getR (b := 2) C hP gl_Clerk_12 rfl rfl rfl d_Clerk_readWord_23 ?_
      obtain ⟨q26, hq26, hM⟩ := gb_some hM
      refine g_backI (g_runV (As := []) C hP (c_Text_wordIsName C.2.2.2.2.2.2.2.2.1 hq26) gi_Text_wordIsName gm_Clerk_105 rfl rfl (by decide) (by decide) hl.1 rfl (Nat.le_of_ble_eq_true rfl) d_Clerk_readWord_26) hS (fun H locs hP hS => ?_)
      refine lv_if_ne (tgt := 34) hx hb d_Clerk_readWord_29 (by decide) (fun hc29 => ?_) (fun hc29 => ?_)
      · replace hM := gi_f hc29 hM
        refine lv_aload_n hx hb d_Clerk_readWord_34 rfl (lv_at hl 0 rfl) ?_
        refine g_getR (b := 2) C hP gl_Clerk_12 rfl rfl rfl d_Clerk_readWord_35 ?_
        refine lv_iconst (v := (0 : Int32)) hx hb d_Clerk_readWord_38 (by decide) ?_
        obtain ⟨q39, hq39, hM⟩ := gb_some hM
        refine g_backL (g_runV (As := [.int (0 : Int32)]) C hP (c_Text_wordHalf C.2.2.2.2.2.2.2.2.1 hq39) gi_Text_wordHalf gm_Clerk_108 rfl rfl (by decide) (by decide) hl.1 rfl (Nat.le_of_ble_eq_true rfl) d_Clerk_readWord_39) hS (fun H locs hP hS => ?_)
        refine lv_lstore_n (lv' := [(2, .long q39.1), (0, .ref (ρ 1)), (1, .int x1)]) hx hb d_Clerk_readWord_42 rfl hl (by decide) rfl (fun ls hl => ?_)
        refine lv_aload_n hx hb d_Clerk_readWord_43 rfl (lv_at hl 1 rfl) ?_
        refine g_getR (b := 2) C hP gl_Clerk_12 rfl rfl rfl d_Clerk_readWord_44 ?_
        refine lv_bipush (v := (6 : Int32)) hx hb d_Clerk_readWord_47 (by decide) ?_
        obtain ⟨q49, hq49, hM⟩ := gb_some hM
        refine g_backL (g_runV (As := [.int (6 : Int32)]) C hP (c_Text_wordHalf C.2.2.2.2.2.2.2.2.1 hq49) gi_Text_wordHalf gm_Clerk_108 rfl rfl (by decide) (by decide) hl.1 rfl (Nat.le_of_ble_eq_true rfl) d_Clerk_readWord_49) hS (fun H locs hP hS => ?_)
        refine lv_lstore (lv' := [(4, .long q49.1), (2, .long q39.1), (0, .ref (ρ 1)), (1, .int x1)]) hx hb d_Clerk_readWord_52 hl (by decide) rfl (fun ls hl => ?_)
        refine lv_iload_n hx hb d_Clerk_readWord_54 rfl (lv_at hl 3 rfl) ?_
        refine lv_iconst (v := (2 : Int32)) hx hb d_Clerk_readWord_55 (by decide) ?_
        refine lv_icmp_eq (tgt := 65) hx hb d_Clerk_readWord_56 (by decide) (fun hc56 => ?_) (fun hc56 => ?_)
        · replace hM := gi_t hc56 hM
          exact t_Clerk_readWord_b65 C hM hR ls H locs (lv_sub hl [2, 3, 1, 0] rfl) hP hS
        · replace hM := gi_f hc56 hM
          refine lv_iload_n hx hb d_Clerk_readWord_59 rfl (lv_at hl 3 rfl) ?_
          refine lv_bipush (v := (6 : Int32)) hx hb d_Clerk_readWord_60 (by decide) ?_
          refine lv_icmp_ne (tgt := 69) hx hb d_Clerk_readWord_62 (by decide) (fun hc62 => ?_) (fun hc62 => ?_)
          · replace hM := gi_f hc62 hM
            refine lv_iconst (v := (0 : Int32)) hx hb d_Clerk_readWord_69 (by decide) ?_
            exact t_Clerk_readWord_b70 C hM hR ls H locs (lv_sub hl [2, 3, 1, 0] rfl) hP hS
          · replace hM := gi_t hc62 hM
            exact t_Clerk_readWord_b65 C hM hR ls H locs (lv_sub hl [2, 3, 1, 0] rfl) hP hS
      · replace hM := gi_t hc29 hM
        refine lv_iconst (v := (2 : Int32)) hx hb d_Clerk_readWord_32 (by decide) ?_
        obtain rfl := Option.some.inj hM
        exact hR _ ls H locs d_Clerk_readWord_33 hP hS
    · replace hM := gi_t hc17 hM
      exact t_Clerk_readWord_b20 C hM hR ls H locs (lv_sub hl [] rfl) hP hS
theorem c_Clerk_readWord {l : Launch} {cy : Nat → ClassId} {D : va_G} {ρ : Nat → Nat} {A : Nat → Prop} (hD : gD ρ A) {x1 : Int32} {u : gSt} {z : (Int32 × gSt)} (hM : M_Clerk_readWord x1 u = some z) : gCtI l y_Clerk_readWord prog_4_method_5_code 8 (some .int) 3 66 cy D ρ A [.ref (ρ 1), .int x1] u z.1 z.2 :=
  g_met (by decide) hD (Nat.le_of_ble_eq_true rfl) (fun p e s m below meth c ls X hl hP => t_Clerk_readWord X hM (fun pc ls H locs hd hP hS => g_iret X hP hS hd) ls _ [] hl hP va_S.rf)
end
