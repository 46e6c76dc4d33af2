/-! printed by wip/whole/gen/gen.py -/
section
variable {p : Program} {l : Launch} {e : Env} {R : Room} {s : State} {m : MethodId} {args : Array Value} {below : List Frame} {meth : Method} {c : Code} {Q : State → Prop} {H0 : Heap} {cells slots : Nat} {cy : Nat → ClassId} {D : va_G} {ρ : Nat → Nat} {A : Nat → Prop}
def y_Model_alias : MethodName := ⟨"TermDeskModel", "alias", "(I)V"⟩
theorem gi_Model_alias : gMi y_Model_alias prog_13_method_34_code 5 none 1 8 := ⟨(gWs_at 1221 (by decide +kernel) (by decide +kernel)), (gWs_at 1220 (by decide +kernel) (by decide +kernel)), (gWs_at 78 (by decide +kernel) (by decide +kernel)), (gWs_at 125 (by decide +kernel) (by decide +kernel)), ⟨by decide +kernel, by decide +kernel, by decide +kernel⟩, _, _, rfl⟩
theorem gm_Model_217 : gMk "TermDeskModel" 217 y_Model_alias := Or.inl (gWs_at 1218 (by decide +kernel) (by decide +kernel))
theorem d_Model_alias_0 : decode prog_13_method_34_code 0 = .ok (.aload_n 0, 1) := by decide +kernel
theorem d_Model_alias_1 : decode prog_13_method_34_code 1 = .ok (.invokevirtual 167, 3) := by decide +kernel
theorem d_Model_alias_4 : decode prog_13_method_34_code 4 = .ok (.ifCond .eq 10, 3) := by decide +kernel
theorem d_Model_alias_7 : decode prog_13_method_34_code 7 = .ok (.aload_n 0, 1) := by decide +kernel
theorem d_Model_alias_8 : decode prog_13_method_34_code 8 = .ok (.invokevirtual 171, 3) := by decide +kernel
theorem d_Model_alias_11 : decode prog_13_method_34_code 11 = .ok (.ifCond .ne 4, 3) := by decide +kernel
theorem d_Model_alias_14 : decode prog_13_method_34_code 14 = .ok (.return_, 1) := by decide +kernel
theorem d_Model_alias_15 : decode prog_13_method_34_code 15 = .ok (.aload_n 0, 1) := by decide +kernel
theorem d_Model_alias_16 : decode prog_13_method_34_code 16 = .ok (.invokevirtual 174, 3) := by decide +kernel
theorem d_Model_alias_19 : decode prog_13_method_34_code 19 = .ok (.iconst (-1), 1) := by decide +kernel
theorem d_Model_alias_20 : decode prog_13_method_34_code 20 = .ok (.if_icmp .eq 13, 3) := by decide +kernel
theorem d_Model_alias_23 : decode prog_13_method_34_code 23 = .ok (.aload_n 0, 1) := by decide +kernel
theorem d_Model_alias_24 : decode prog_13_method_34_code 24 = .ok (.iconst 4, 1) := by decide +kernel
theorem d_Model_alias_25 : decode prog_13_method_34_code 25 = .ok (.aload_n 0, 1) := by decide +kernel
theorem d_Model_alias_26 : decode prog_13_method_34_code 26 = .ok (.getfield 150, 3) := by decide +kernel
theorem d_Model_alias_29 : decode prog_13_method_34_code 29 = .ok (.invokevirtual 146, 3) := by decide +kernel
theorem d_Model_alias_32 : decode prog_13_method_34_code 32 = .ok (.pop, 1) := by decide +kernel
theorem d_Model_alias_33 : decode prog_13_method_34_code 33 = .ok (.aload_n 0, 1) := by decide +kernel
theorem d_Model_alias_34 : decode prog_13_method_34_code 34 = .ok (.getfield 137, 3) := by decide +kernel
theorem d_Model_alias_37 : decode prog_13_method_34_code 37 = .ok (.ifCond .eq 4, 3) := by decide +kernel
theorem d_Model_alias_40 : decode prog_13_method_34_code 40 = .ok (.return_, 1) := by decide +kernel
theorem d_Model_alias_41 : decode prog_13_method_34_code 41 = .ok (.aload_n 0, 1) := by decide +kernel
theorem d_Model_alias_42 : decode prog_13_method_34_code 42 = .ok (.getfield 150, 3) := by decide +kernel
theorem d_Model_alias_45 : decode prog_13_method_34_code 45 = .ok (.istore_n 2, 1) := by decide +kernel
theorem d_Model_alias_46 : decode prog_13_method_34_code 46 = .ok (.aload_n 0, 1) := by decide +kernel
theorem d_Model_alias_47 : decode prog_13_method_34_code 47 = .ok (.getfield 140, 3) := by decide +kernel
theorem d_Model_alias_50 : decode prog_13_method_34_code 50 = .ok (.aload_n 0, 1) := by decide +kernel
theorem d_Model_alias_51 : decode prog_13_method_34_code 51 = .ok (.getfield 150, 3) := by decide +kernel
theorem d_Model_alias_54 : decode prog_13_method_34_code 54 = .ok (.isub, 1) := by decide +kernel
theorem d_Model_alias_55 : decode prog_13_method_34_code 55 = .ok (.istore_n 3, 1) := by decide +kernel
theorem d_Model_alias_56 : decode prog_13_method_34_code 56 = .ok (.aload_n 0, 1) := by decide +kernel
theorem d_Model_alias_57 : decode prog_13_method_34_code 57 = .ok (.invokevirtual 194, 3) := by decide +kernel
theorem d_Model_alias_60 : decode prog_13_method_34_code 60 = .ok (.istore 4, 2) := by decide +kernel
theorem d_Model_alias_62 : decode prog_13_method_34_code 62 = .ok (.aload_n 0, 1) := by decide +kernel
theorem d_Model_alias_63 : decode prog_13_method_34_code 63 = .ok (.iload_n 1, 1) := by decide +kernel
theorem d_Model_alias_64 : decode prog_13_method_34_code 64 = .ok (.aload_n 0, 1) := by decide +kernel
theorem d_Model_alias_65 : decode prog_13_method_34_code 65 = .ok (.getfield 157, 3) := by decide +kernel
theorem d_Model_alias_68 : decode prog_13_method_34_code 68 = .ok (.sipush 300, 3) := by decide +kernel
theorem d_Model_alias_71 : decode prog_13_method_34_code 71 = .ok (.if_icmp .ge 7, 3) := by decide +kernel
theorem d_Model_alias_74 : decode prog_13_method_34_code 74 = .ok (.iconst 1, 1) := by decide +kernel
theorem d_Model_alias_75 : decode prog_13_method_34_code 75 = .ok (.goto 4, 3) := by decide +kernel
theorem d_Model_alias_78 : decode prog_13_method_34_code 78 = .ok (.iconst 0, 1) := by decide +kernel
theorem d_Model_alias_79 : decode prog_13_method_34_code 79 = .ok (.invokevirtual 187, 3) := by decide +kernel
theorem d_Model_alias_82 : decode prog_13_method_34_code 82 = .ok (.ifCond .eq 11, 3) := by decide +kernel
theorem d_Model_alias_85 : decode prog_13_method_34_code 85 = .ok (.aload_n 0, 1) := by decide +kernel
theorem d_Model_alias_86 : decode prog_13_method_34_code 86 = .ok (.iload_n 2, 1) := by decide +kernel
theorem d_Model_alias_87 : decode prog_13_method_34_code 87 = .ok (.iload_n 3, 1) := by decide +kernel
theorem d_Model_alias_88 : decode prog_13_method_34_code 88 = .ok (.iload 4, 2) := by decide +kernel
theorem d_Model_alias_90 : decode prog_13_method_34_code 90 = .ok (.invokevirtual 191, 3) := by decide +kernel
theorem d_Model_alias_93 : decode prog_13_method_34_code 93 = .ok (.return_, 1) := by decide +kernel
noncomputable def M_Model_alias_b14 (u : gSt) : Option (gSt) :=
  some u
set_option maxHeartbeats 4000000 in
set_option maxRecDepth 100000 in
theorem t_Model_alias_b14 (C : gX "TermDeskModel" prog_13_method_34_code 5 none 4 88 R cells slots cy D ρ A p s m args meth c) {u : gSt} {z : gSt} (hM : M_Model_alias_b14 u = some z) (hR : gRtV p l e R s m args below meth c Q H0 cells slots cy D ρ A prog_13_method_34_code z) : gAt p l e R s m args below meth c Q H0 cells slots cy D ρ A 5 14 [] [] u := by
  intro ls H locs hl hP hS
  have hx := C.1
  have hb := C.2.1
  unfold M_Model_alias_b14 at hM
  obtain rfl := Option.some.inj hM
  exact hR _ ls H locs d_Model_alias_14 hP hS
noncomputable def M_Model_alias_b93 (u : gSt) : Option (gSt) :=
  some u
set_option maxHeartbeats 4000000 in
set_option maxRecDepth 100000 in
theorem t_Model_alias_b93 (C : gX "TermDeskModel" prog_13_method_34_code 5 none 4 88 R cells slots cy D ρ A p s m args meth c) {u : gSt} {z : gSt} (hM : M_Model_alias_b93 u = some z) (hR : gRtV p l e R s m args below meth c Q H0 cells slots cy D ρ A prog_13_method_34_code z) : gAt p l e R s m args below meth c Q H0 cells slots cy D ρ A 5 93 [] [] u := by
  intro ls H locs hl hP hS
  have hx := C.1
  have hb := C.2.1
  unfold M_Model_alias_b93 at hM
  obtain rfl := Option.some.inj hM
  exact hR _ ls H locs d_Model_alias_93 hP hS
noncomputable def M_Model_alias_b79 (x2 : Int32) (x3 : Int32) (x4 : Int32) (s0 : Int32) (s1 : Int32) (u : gSt) : Option (gSt) :=
  (M_Model_ends s1 s0 u).bind fun q79 =>
  if q79.1 = (0 : Int32) then
    (M_Model_alias_b93 q79.2)
  else
    ((M_Model_addName x2 x3 x4 q79.2).bind fun q90 =>
    M_Model_alias_b93 q90)
set_option maxHeartbeats 4000000 in
set_option maxRecDepth 100000 in
theorem t_Model_alias_b79 (C : gX "TermDeskModel" prog_13_method_34_code 5 none 4 88 R cells slots cy D ρ A p s m args meth c) {x2 : Int32} {x3 : Int32} {x4 : Int32} {s0 : Int32} {s1 : Int32} {u : gSt} {z : gSt} (hM : M_Model_alias_b79 x2 x3 x4 s0 s1 u = some z) (hR : gRtV p l e R s m args below meth c Q H0 cells slots cy D ρ A prog_13_method_34_code z) : gAt p l e R s m args below meth c Q H0 cells slots cy D ρ A 5 79 [(0, .ref (ρ 42)), (2, .int x2), (3, .int x3), (4, .int x4)] [.int s0, .int s1, .ref (ρ 42)] u := by
  intro ls H locs hl hP hS
  have hx := C.1
  have hb := C.2.1
  unfold M_Model_alias_b79 at hM
  obtain ⟨q79, hq79, hM⟩ := gb_some hM
  refine g_backI (g_runV (As := [.int s1, .int s0]) C hP (c_Model_ends C.2.2.2.2.2.2.2.2.1 hq79) gi_Model_ends gm_Model_187 rfl rfl (by decide) (by decide) hl.1 rfl (Nat.le_of_ble_eq_true rfl) d_Model_alias_79) hS (fun H locs hP hS => ?_)
  refine lv_if_eq (tgt := 93) hx hb d_Model_alias_82 (by decide) (fun hc82 => ?_) (fun hc82 => ?_)
  · replace hM := gi_t hc82 hM
    exact t_Model_alias_b93 C hM hR ls H locs (lv_sub hl [] rfl) hP hS
  · replace hM := gi_f hc82 hM
    refine lv_aload_n hx hb d_Model_alias_85 rfl (lv_at hl 0 rfl) ?_
    refine lv_iload_n hx hb d_Model_alias_86 rfl (lv_at hl 1 rfl) ?_
    refine lv_iload_n hx hb d_Model_alias_87 rfl (lv_at hl 2 rfl) ?_
    refine lv_iload hx hb d_Model_alias_88 (lv_at hl 3 rfl) ?_
    obtain ⟨q90, hq90, hM⟩ := gb_some hM
    refine g_backV (g_runV (As := [.int x2, .int x3, .int x4]) C hP (c_Model_addName C.2.2.2.2.2.2.2.2.1 hq90) gi_Model_addName gm_Model_191 rfl rfl (by decide) (by decide) hl.1 rfl (Nat.le_of_ble_eq_true rfl) d_Model_alias_90) hS (fun H locs hP hS => ?_)
    exact t_Model_alias_b93 C hM hR ls H locs (lv_sub hl [] rfl) hP hS
noncomputable def M_Model_alias_b33 (x1 : Int32) (u : gSt) : Option (gSt) :=
  if (u.1 42 2) = (0 : Int32) then
    ((M_Model_youngTerm u).bind fun q57 =>
    if (300 : Int32) ≤ (q57.2.1 42 7) then
      (M_Model_alias_b79 (u.1 42 22) ((u.1 42 23) - (u.1 42 22)) q57.1 (0 : Int32) x1 q57.2)
    else
      (M_Model_alias_b79 (u.1 42 22) ((u.1 42 23) - (u.1 42 22)) q57.1 (1 : Int32) x1 q57.2))
  else
    (some u)
set_option maxHeartbeats 4000000 in
set_option maxRecDepth 100000 in
theorem t_Model_alias_b33 (C : gX "TermDeskModel" prog_13_method_34_code 5 none 4 88 R cells slots cy D ρ A p s m args meth c) {x1 : Int32} {u : gSt} {z : gSt} (hM : M_Model_alias_b33 x1 u = some z) (hR : gRtV p l e R s m args below meth c Q H0 cells slots cy D ρ A prog_13_method_34_code z) : gAt p l e R s m args below meth c Q H0 cells slots cy D ρ A 5 33 [(0, .ref (ρ 42)), (1, .int x1)] [] u := by
  intro ls H locs hl hP hS
  have hx := C.1
  have hb := C.2.1
  unfold M_Model_alias_b33 at hM
  refine lv_aload_n hx hb d_Model_alias_33 rfl (lv_at hl 0 rfl) ?_
  refine g_getI C hP gl_DeskModel_137 rfl rfl d_Model_alias_34 ?_
  refine lv_if_eq (tgt := 41) hx hb d_Model_alias_37 (by decide) (fun hc37 => ?_) (fun hc37 => ?_)
  · replace hM := gi_t hc37 hM
    refine lv_aload_n hx hb d_Model_alias_41 rfl (lv_at hl 0 rfl) ?_
    refine g_getI C hP gl_DeskModel_150 rfl rfl d_Model_alias_42 ?_
    refine lv_istore_n (lv' := [(2, .int (u.1 42 22)), (0, .ref (ρ 42)), (1, .int x1)]) hx hb d_Model_alias_45 rfl hl (by decide) rfl (fun ls hl => ?_)
    refine lv_aload_n hx hb d_Model_alias_46 rfl (lv_at hl 1 rfl) ?_
    refine g_getI C hP gl_DeskModel_140 rfl rfl d_Model_alias_47 ?_
    refine lv_aload_n hx hb d_Model_alias_50 rfl (lv_at hl 1 rfl) ?_
    refine g_getI C hP gl_DeskModel_150 rfl rfl d_Model_alias_51 ?_
    refine lv_isub hx hb d_Model_alias_54 ?_
    refine lv_istore_n (lv' := [(3, .int ((u.1 42 23) - (u.1 42 22))), (2, .int (u.1 42 22)), (0, .ref (ρ 42)), (1, .int x1)]) hx hb d_Model_alias_55 rfl hl (by decide) rfl (fun ls hl => ?_)
    refine lv_aload_n hx hb d_Model_alias_56 rfl (lv_at hl 2 rfl) ?_
    obtain ⟨q57, hq57, hM⟩ := gb_some hM
    refine g_backI (g_runV (As := []) C hP (c_Model_youngTerm C.2.2.2.2.2.2.2.2.1 hq57) gi_Model_youngTerm gm_Model_194 rfl rfl (by decide) (by decide) hl.1 rfl (Nat.le_of_ble_eq_true rfl) d_Model_alias_57) hS (fun H locs hP hS => ?_)
    refine lv_istore (lv' := [(4, .int q57.1), (3, .int ((u.1 42 23) - (u.1 42 22))), (2, .int (u.1 42 22)), (0, .ref (ρ 42)), (1, .int x1)]) hx hb d_Model_alias_60 hl (by decide) rfl (fun ls hl => ?_)
    refine lv_aload_n hx hb d_Model_alias_62 rfl (lv_at hl 3 rfl) ?_
    refine lv_iload_n hx hb d_Model_alias_63 rfl (lv_at hl 4 rfl) ?_
    refine lv_aload_n hx hb d_Model_alias_64 rfl (lv_at hl 3 rfl) ?_
    refine g_getI C hP gl_DeskModel_157 rfl rfl d_Model_alias_65 ?_
    refine lv_sipush (v := (300 : Int32)) hx hb d_Model_alias_68 (by decide) ?_
    refine lv_icmp_ge (tgt := 78) hx hb d_Model_alias_71 (by decide) (fun hc71 => ?_) (fun hc71 => ?_)
    · replace hM := gi_t hc71 hM
      refine lv_iconst (v := (0 : Int32)) hx hb d_Model_alias_78 (by decide) ?_
      exact t_Model_alias_b79 C hM hR ls H locs (lv_sub hl [3, 2, 1, 0] rfl) hP hS
    · replace hM := gi_f hc71 hM
      refine lv_iconst (v := (1 : Int32)) hx hb d_Model_alias_74 (by decide) ?_
      refine lv_goto (tgt := 79) hx hb d_Model_alias_75 (by decide) ?_
      exact t_Model_alias_b79 C hM hR ls H locs (lv_sub hl [3, 2, 1, 0] rfl) hP hS
  · replace hM := gi_f hc37 hM
    obtain rfl := Option.some.inj hM
    exact hR _ ls H locs d_Model_alias_40 hP hS
noncomputable def M_Model_alias (x1 : Int32) (u : gSt) : Option (gSt) :=
  (M_Model_next u).bind fun q1 =>
  if q1.1 = (0 : Int32) then
    (M_Model_alias_b14 q1.2)
  else
    ((M_Model_isName q1.2).bind fun q8 =>
    if q8.1 = (0 : Int32) then
      (M_Model_alias_b14 q8.2)
    else
      ((M_Model_termOf q8.2).bind fun q16 =>
      if q16.1 = (-1 : Int32) then
        (M_Model_alias_b33 x1 q16.2)
      else
        ((M_Model_stop (4 : Int32) (q16.2.1 42 22) q16.2).bind fun q29 =>
        M_Model_alias_b33 x1 q29.2)))
set_option maxHeartbeats 4000000 in
set_option maxRecDepth 100000 in
theorem t_Model_alias (C : gX "TermDeskModel" prog_13_method_34_code 5 none 4 88 R cells slots cy D ρ A p s m args meth c) {x1 : Int32} {u : gSt} {z : gSt} (hM : M_Model_alias x1 u = some z) (hR : gRtV p l e R s m args below meth c Q H0 cells slots cy D ρ A prog_13_method_34_code z) : gAt p l e R s m args below meth c Q H0 cells slots cy D ρ A 5 0 [(0, .ref (ρ 42)), (1, .int x1)] [] u := by
  intro ls H locs hl hP hS
  have hx := C.1
  have hb := C.2.1
  unfold M_Model_alias at hM
  refine lv_aload_n hx hb d_Model_alias_0 rfl (lv_at hl 0 rfl) ?_
  obtain ⟨q1, hq1, hM⟩ := gb_some hM
  refine g_backI (g_runV (As := []) C hP (c_Model_next C.2.2.2.2.2.2.2.2.1 hq1) gi_Model_next gm_Model_167 rfl rfl (by decide) (by decide) hl.1 rfl (Nat.le_of_ble_eq_true rfl) d_Model_alias_1) hS (fun H locs hP hS => ?_)
  refine lv_if_eq (tgt := 14) hx hb d_Model_alias_4 (by decide) (fun hc4 => ?_) (fun hc4 => ?_)
  · replace hM := gi_t hc4 hM
    exact t_Model_alias_b14 C hM hR ls H locs (lv_sub hl [] rfl) hP hS
  · replace hM := gi_f hc4 hM
    refine lv_aload_n hx hb d_Model_alias_7 rfl (lv_at hl 0 rfl) ?_
    obtain ⟨q8, hq8, hM⟩ := gb_some hM
    refine g_backI (g_runV (As := []) C hP (c_Model_isName C.2.2.2.2.2.2.2.2.1 hq8) gi_Model_isName gm_Model_171 rfl rfl (by decide) (by decide) hl.1 rfl (Nat.le_of_ble_eq_true rfl) d_Model_alias_8) hS (fun H locs hP hS => ?_)
    refine lv_if_ne (tgt := 15) hx hb d_Model_alias_11 (by decide) (fun hc11 => ?_) (fun hc11 => ?_)
    · replace hM := gi_f hc11 hM
      refine lv_aload_n hx hb d_Model_alias_15 rfl (lv_at hl 0 rfl) ?_
      obtain ⟨q16, hq16, hM⟩ := gb_some hM
      refine g_backI (g_runV (As := []) C hP (c_Model_termOf C.2.2.2.2.2.2.2.2.1 hq16) gi_Model_termOf gm_Model_174 rfl rfl (by decide) (by decide) hl.1 rfl (Nat.le_of_ble_eq_true rfl) d_Model_alias_16) hS (fun H locs hP hS => ?_)
      refine lv_iconst (v := (-1 : Int32)) hx hb d_Model_alias_19 (by decide) ?_
      refine lv_icmp_eq (tgt := 33) hx hb d_Model_alias_20 (by decide) (fun hc20 => ?_) (fun hc20 => ?_)
      · replace hM := gi_t hc20 hM
        exact t_Model_alias_b33 C hM hR ls H locs (lv_sub hl [0, 1] rfl) hP hS
      · replace hM := gi_f hc20 hM
        refine lv_aload_n hx hb d_Model_alias_23 rfl (lv_at hl 0 rfl) ?_
        refine lv_iconst (v := (4 : Int32)) hx hb d_Model_alias_24 (by decide) ?_
        refine lv_aload_n hx hb d_Model_alias_25 rfl (lv_at hl 0 rfl) ?_
        refine g_getI C hP gl_DeskModel_150 rfl rfl d_Model_alias_26 ?_
        obtain ⟨q29, hq29, hM⟩ := gb_some hM
        refine g_backI (g_runV (As := [.int (4 : Int32), .int (q16.2.1 42 22)]) C hP (c_Model_stop C.2.2.2.2.2.2.2.2.1 hq29) gi_Model_stop gm_Model_146 rfl rfl (by decide) (by decide) hl.1 rfl (Nat.le_of_ble_eq_true rfl) d_Model_alias_29) hS (fun H locs hP hS => ?_)
        refine lv_pop hx hb d_Model_alias_32 rfl ?_
        exact t_Model_alias_b33 C hM hR ls H locs (lv_sub hl [0, 1] rfl) hP hS
    · replace hM := gi_t hc11 hM
      exact t_Model_alias_b14 C hM hR ls H locs (lv_sub hl [] rfl) hP hS
theorem c_Model_alias {l : Launch} {cy : Nat → ClassId} {D : va_G} {ρ : Nat → Nat} {A : Nat → Prop} (hD : gD ρ A) {x1 : Int32} {u : gSt} {z : gSt} (hM : M_Model_alias x1 u = some z) : gCtV l y_Model_alias prog_13_method_34_code 5 none 4 88 cy D ρ A [.ref (ρ 42), .int x1] u z :=
  g_met (by decide) hD (Nat.le_of_ble_eq_true rfl) (fun p e s m below meth c ls X hl hP => t_Model_alias X hM (fun pc ls H locs hd hP hS => g_vret X hP hS hd) ls _ [] hl hP va_S.rf)
end
section
variable {p : Program} {l : Launch} {e : Env} {R : Room} {s : State} {m : MethodId} {args : Array Value} {below : List Frame} {meth : Method} {c : Code} {Q : State → Prop} {H0 : Heap} {cells slots : Nat} {cy : Nat → ClassId} {D : va_G} {ρ : Nat → Nat} {A : Nat → Prop}
def y_Model_link : MethodName := ⟨"TermDeskModel", "link", "(I)V"⟩
theorem gi_Model_link : gMi y_Model_link prog_13_method_35_code 7 none 1 8 := ⟨(gWs_at 1233 (by decide +kernel) (by decide +kernel)), (gWs_at 1232 (by decide +kernel) (by decide +kernel)), (gWs_at 81 (by decide +kernel) (by decide +kernel)), (gWs_at 125 (by decide +kernel) (by decide +kernel)), ⟨by decide +kernel, by decide +kernel, by decide +kernel⟩, _, _, rfl⟩
theorem gm_Model_220 : gMk "TermDeskModel" 220 y_Model_link := Or.inl (gWs_at 1230 (by decide +kernel) (by decide +kernel))
theorem d_Model_link_0 : decode prog_13_method_35_code 0 = .ok (.aload_n 0, 1) := by decide +kernel
theorem d_Model_link_1 : decode prog_13_method_35_code 1 = .ok (.invokevirtual 194, 3) := by decide +kernel
theorem d_Model_link_4 : decode prog_13_method_35_code 4 = .ok (.istore_n 2, 1) := by decide +kernel
theorem d_Model_link_5 : decode prog_13_method_35_code 5 = .ok (.aload_n 0, 1) := by decide +kernel
theorem d_Model_link_6 : decode prog_13_method_35_code 6 = .ok (.getfield 137, 3) := by decide +kernel
theorem d_Model_link_9 : decode prog_13_method_35_code 9 = .ok (.ifCond .eq 4, 3) := by decide +kernel
theorem d_Model_link_12 : decode prog_13_method_35_code 12 = .ok (.return_, 1) := by decide +kernel
theorem d_Model_link_13 : decode prog_13_method_35_code 13 = .ok (.aload_n 0, 1) := by decide +kernel
theorem d_Model_link_14 : decode prog_13_method_35_code 14 = .ok (.invokevirtual 178, 3) := by decide +kernel
theorem d_Model_link_17 : decode prog_13_method_35_code 17 = .ok (.istore_n 3, 1) := by decide +kernel
theorem d_Model_link_18 : decode prog_13_method_35_code 18 = .ok (.aload_n 0, 1) := by decide +kernel
theorem d_Model_link_19 : decode prog_13_method_35_code 19 = .ok (.getfield 137, 3) := by decide +kernel
theorem d_Model_link_22 : decode prog_13_method_35_code 22 = .ok (.ifCond .eq 4, 3) := by decide +kernel
theorem d_Model_link_25 : decode prog_13_method_35_code 25 = .ok (.return_, 1) := by decide +kernel
theorem d_Model_link_26 : decode prog_13_method_35_code 26 = .ok (.iload_n 2, 1) := by decide +kernel
theorem d_Model_link_27 : decode prog_13_method_35_code 27 = .ok (.iload_n 3, 1) := by decide +kernel
theorem d_Model_link_28 : decode prog_13_method_35_code 28 = .ok (.if_icmp .eq 18, 3) := by decide +kernel
theorem d_Model_link_31 : decode prog_13_method_35_code 31 = .ok (.aload_n 0, 1) := by decide +kernel
theorem d_Model_link_32 : decode prog_13_method_35_code 32 = .ok (.getfield 41, 3) := by decide +kernel
theorem d_Model_link_35 : decode prog_13_method_35_code 35 = .ok (.sipush 200, 3) := by decide +kernel
theorem d_Model_link_38 : decode prog_13_method_35_code 38 = .ok (.iload_n 3, 1) := by decide +kernel
theorem d_Model_link_39 : decode prog_13_method_35_code 39 = .ok (.imul, 1) := by decide +kernel
theorem d_Model_link_40 : decode prog_13_method_35_code 40 = .ok (.iload_n 2, 1) := by decide +kernel
theorem d_Model_link_41 : decode prog_13_method_35_code 41 = .ok (.iadd, 1) := by decide +kernel
theorem d_Model_link_42 : decode prog_13_method_35_code 42 = .ok (.baload, 1) := by decide +kernel
theorem d_Model_link_43 : decode prog_13_method_35_code 43 = .ok (.ifCond .eq 13, 3) := by decide +kernel
theorem d_Model_link_46 : decode prog_13_method_35_code 46 = .ok (.aload_n 0, 1) := by decide +kernel
theorem d_Model_link_47 : decode prog_13_method_35_code 47 = .ok (.iconst 5, 1) := by decide +kernel
theorem d_Model_link_48 : decode prog_13_method_35_code 48 = .ok (.aload_n 0, 1) := by decide +kernel
theorem d_Model_link_49 : decode prog_13_method_35_code 49 = .ok (.getfield 150, 3) := by decide +kernel
theorem d_Model_link_52 : decode prog_13_method_35_code 52 = .ok (.invokevirtual 146, 3) := by decide +kernel
theorem d_Model_link_55 : decode prog_13_method_35_code 55 = .ok (.pop, 1) := by decide +kernel
theorem d_Model_link_56 : decode prog_13_method_35_code 56 = .ok (.aload_n 0, 1) := by decide +kernel
theorem d_Model_link_57 : decode prog_13_method_35_code 57 = .ok (.getfield 34, 3) := by decide +kernel
theorem d_Model_link_60 : decode prog_13_method_35_code 60 = .ok (.iload_n 3, 1) := by decide +kernel
theorem d_Model_link_61 : decode prog_13_method_35_code 61 = .ok (.iaload, 1) := by decide +kernel
theorem d_Model_link_62 : decode prog_13_method_35_code 62 = .ok (.iconst 1, 1) := by decide +kernel
theorem d_Model_link_63 : decode prog_13_method_35_code 63 = .ok (.if_icmp .ne 14, 3) := by decide +kernel
theorem d_Model_link_66 : decode prog_13_method_35_code 66 = .ok (.aload_n 0, 1) := by decide +kernel
theorem d_Model_link_67 : decode prog_13_method_35_code 67 = .ok (.bipush 6, 2) := by decide +kernel
theorem d_Model_link_69 : decode prog_13_method_35_code 69 = .ok (.aload_n 0, 1) := by decide +kernel
theorem d_Model_link_70 : decode prog_13_method_35_code 70 = .ok (.getfield 150, 3) := by decide +kernel
theorem d_Model_link_73 : decode prog_13_method_35_code 73 = .ok (.invokevirtual 146, 3) := by decide +kernel
theorem d_Model_link_76 : decode prog_13_method_35_code 76 = .ok (.pop, 1) := by decide +kernel
theorem d_Model_link_77 : decode prog_13_method_35_code 77 = .ok (.aload_n 0, 1) := by decide +kernel
theorem d_Model_link_78 : decode prog_13_method_35_code 78 = .ok (.getfield 37, 3) := by decide +kernel
theorem d_Model_link_81 : decode prog_13_method_35_code 81 = .ok (.sipush 200, 3) := by decide +kernel
theorem d_Model_link_84 : decode prog_13_method_35_code 84 = .ok (.iload_n 2, 1) := by decide +kernel
theorem d_Model_link_85 : decode prog_13_method_35_code 85 = .ok (.imul, 1) := by decide +kernel
theorem d_Model_link_86 : decode prog_13_method_35_code 86 = .ok (.iload_n 3, 1) := by decide +kernel
theorem d_Model_link_87 : decode prog_13_method_35_code 87 = .ok (.iadd, 1) := by decide +kernel
theorem d_Model_link_88 : decode prog_13_method_35_code 88 = .ok (.baload, 1) := by decide +kernel
theorem d_Model_link_89 : decode prog_13_method_35_code 89 = .ok (.istore 4, 2) := by decide +kernel
theorem d_Model_link_91 : decode prog_13_method_35_code 91 = .ok (.aload_n 0, 1) := by decide +kernel
theorem d_Model_link_92 : decode prog_13_method_35_code 92 = .ok (.iload_n 1, 1) := by decide +kernel
theorem d_Model_link_93 : decode prog_13_method_35_code 93 = .ok (.iload 4, 2) := by decide +kernel
theorem d_Model_link_95 : decode prog_13_method_35_code 95 = .ok (.ifCond .ne 13, 3) := by decide +kernel
theorem d_Model_link_98 : decode prog_13_method_35_code 98 = .ok (.aload_n 0, 1) := by decide +kernel
theorem d_Model_link_99 : decode prog_13_method_35_code 99 = .ok (.getfield 197, 3) := by decide +kernel
theorem d_Model_link_102 : decode prog_13_method_35_code 102 = .ok (.sipush 600, 3) := by decide +kernel
theorem d_Model_link_105 : decode prog_13_method_35_code 105 = .ok (.if_icmp .ge 7, 3) := by decide +kernel
theorem d_Model_link_108 : decode prog_13_method_35_code 108 = .ok (.iconst 1, 1) := by decide +kernel
theorem d_Model_link_109 : decode prog_13_method_35_code 109 = .ok (.goto 4, 3) := by decide +kernel
theorem d_Model_link_112 : decode prog_13_method_35_code 112 = .ok (.iconst 0, 1) := by decide +kernel
theorem d_Model_link_113 : decode prog_13_method_35_code 113 = .ok (.invokevirtual 187, 3) := by decide +kernel
theorem d_Model_link_116 : decode prog_13_method_35_code 116 = .ok (.ifCond .eq 8, 3) := by decide +kernel
theorem d_Model_link_119 : decode prog_13_method_35_code 119 = .ok (.iload 4, 2) := by decide +kernel
theorem d_Model_link_121 : decode prog_13_method_35_code 121 = .ok (.ifCond .eq 4, 3) := by decide +kernel
theorem d_Model_link_124 : decode prog_13_method_35_code 124 = .ok (.return_, 1) := by decide +kernel
theorem d_Model_link_125 : decode prog_13_method_35_code 125 = .ok (.aload_n 0, 1) := by decide +kernel
theorem d_Model_link_126 : decode prog_13_method_35_code 126 = .ok (.getfield 37, 3) := by decide +kernel
theorem d_Model_link_129 : decode prog_13_method_35_code 129 = .ok (.sipush 200, 3) := by decide +kernel
theorem d_Model_link_132 : decode prog_13_method_35_code 132 = .ok (.iload_n 2, 1) := by decide +kernel
theorem d_Model_link_133 : decode prog_13_method_35_code 133 = .ok (.imul, 1) := by decide +kernel
theorem d_Model_link_134 : decode prog_13_method_35_code 134 = .ok (.iload_n 3, 1) := by decide +kernel
theorem d_Model_link_135 : decode prog_13_method_35_code 135 = .ok (.iadd, 1) := by decide +kernel
theorem d_Model_link_136 : decode prog_13_method_35_code 136 = .ok (.iconst 1, 1) := by decide +kernel
theorem d_Model_link_137 : decode prog_13_method_35_code 137 = .ok (.bastore, 1) := by decide +kernel
theorem d_Model_link_138 : decode prog_13_method_35_code 138 = .ok (.aload_n 0, 1) := by decide +kernel
theorem d_Model_link_139 : decode prog_13_method_35_code 139 = .ok (.dup, 1) := by decide +kernel
theorem d_Model_link_140 : decode prog_13_method_35_code 140 = .ok (.getfield 197, 3) := by decide +kernel
theorem d_Model_link_143 : decode prog_13_method_35_code 143 = .ok (.iconst 1, 1) := by decide +kernel
theorem d_Model_link_144 : decode prog_13_method_35_code 144 = .ok (.iadd, 1) := by decide +kernel
theorem d_Model_link_145 : decode prog_13_method_35_code 145 = .ok (.putfield 197, 3) := by decide +kernel
theorem d_Model_link_148 : decode prog_13_method_35_code 148 = .ok (.aload_n 0, 1) := by decide +kernel
theorem d_Model_link_149 : decode prog_13_method_35_code 149 = .ok (.iconst 0, 1) := by decide +kernel
theorem d_Model_link_150 : decode prog_13_method_35_code 150 = .ok (.putfield 200, 3) := by decide +kernel
theorem d_Model_link_153 : decode prog_13_method_35_code 153 = .ok (.iconst 0, 1) := by decide +kernel
theorem d_Model_link_154 : decode prog_13_method_35_code 154 = .ok (.istore 5, 2) := by decide +kernel
theorem d_Model_link_156 : decode prog_13_method_35_code 156 = .ok (.iload 5, 2) := by decide +kernel
theorem d_Model_link_158 : decode prog_13_method_35_code 158 = .ok (.aload_n 0, 1) := by decide +kernel
theorem d_Model_link_159 : decode prog_13_method_35_code 159 = .ok (.getfield 184, 3) := by decide +kernel
theorem d_Model_link_162 : decode prog_13_method_35_code 162 = .ok (.if_icmp .ge 89, 3) := by decide +kernel
theorem d_Model_link_165 : decode prog_13_method_35_code 165 = .ok (.iload 5, 2) := by decide +kernel
theorem d_Model_link_167 : decode prog_13_method_35_code 167 = .ok (.iload_n 2, 1) := by decide +kernel
theorem d_Model_link_168 : decode prog_13_method_35_code 168 = .ok (.if_icmp .eq 22, 3) := by decide +kernel
theorem d_Model_link_171 : decode prog_13_method_35_code 171 = .ok (.aload_n 0, 1) := by decide +kernel
theorem d_Model_link_172 : decode prog_13_method_35_code 172 = .ok (.getfield 41, 3) := by decide +kernel
theorem d_Model_link_175 : decode prog_13_method_35_code 175 = .ok (.sipush 200, 3) := by decide +kernel
theorem d_Model_link_178 : decode prog_13_method_35_code 178 = .ok (.iload 5, 2) := by decide +kernel
theorem d_Model_link_180 : decode prog_13_method_35_code 180 = .ok (.imul, 1) := by decide +kernel
theorem d_Model_link_181 : decode prog_13_method_35_code 181 = .ok (.iload_n 2, 1) := by decide +kernel
theorem d_Model_link_182 : decode prog_13_method_35_code 182 = .ok (.iadd, 1) := by decide +kernel
theorem d_Model_link_183 : decode prog_13_method_35_code 183 = .ok (.baload, 1) := by decide +kernel
theorem d_Model_link_184 : decode prog_13_method_35_code 184 = .ok (.ifCond .ne 6, 3) := by decide +kernel
theorem d_Model_link_187 : decode prog_13_method_35_code 187 = .ok (.goto 58, 3) := by decide +kernel
theorem d_Model_link_190 : decode prog_13_method_35_code 190 = .ok (.iconst 0, 1) := by decide +kernel
theorem d_Model_link_191 : decode prog_13_method_35_code 191 = .ok (.istore 6, 2) := by decide +kernel
theorem d_Model_link_193 : decode prog_13_method_35_code 193 = .ok (.iload 6, 2) := by decide +kernel
theorem d_Model_link_195 : decode prog_13_method_35_code 195 = .ok (.aload_n 0, 1) := by decide +kernel
theorem d_Model_link_196 : decode prog_13_method_35_code 196 = .ok (.getfield 184, 3) := by decide +kernel
theorem d_Model_link_199 : decode prog_13_method_35_code 199 = .ok (.if_icmp .ge 46, 3) := by decide +kernel
theorem d_Model_link_202 : decode prog_13_method_35_code 202 = .ok (.iload 6, 2) := by decide +kernel
theorem d_Model_link_204 : decode prog_13_method_35_code 204 = .ok (.iload_n 3, 1) := by decide +kernel
theorem d_Model_link_205 : decode prog_13_method_35_code 205 = .ok (.if_icmp .eq 19, 3) := by decide +kernel
theorem d_Model_link_208 : decode prog_13_method_35_code 208 = .ok (.aload_n 0, 1) := by decide +kernel
theorem d_Model_link_209 : decode prog_13_method_35_code 209 = .ok (.getfield 41, 3) := by decide +kernel
theorem d_Model_link_212 : decode prog_13_method_35_code 212 = .ok (.sipush 200, 3) := by decide +kernel
theorem d_Model_link_215 : decode prog_13_method_35_code 215 = .ok (.iload_n 3, 1) := by decide +kernel
theorem d_Model_link_216 : decode prog_13_method_35_code 216 = .ok (.imul, 1) := by decide +kernel
theorem d_Model_link_217 : decode prog_13_method_35_code 217 = .ok (.iload 6, 2) := by decide +kernel
theorem d_Model_link_219 : decode prog_13_method_35_code 219 = .ok (.iadd, 1) := by decide +kernel
theorem d_Model_link_220 : decode prog_13_method_35_code 220 = .ok (.baload, 1) := by decide +kernel
theorem d_Model_link_221 : decode prog_13_method_35_code 221 = .ok (.ifCond .eq 18, 3) := by decide +kernel
theorem d_Model_link_224 : decode prog_13_method_35_code 224 = .ok (.aload_n 0, 1) := by decide +kernel
theorem d_Model_link_225 : decode prog_13_method_35_code 225 = .ok (.getfield 41, 3) := by decide +kernel
theorem d_Model_link_228 : decode prog_13_method_35_code 228 = .ok (.sipush 200, 3) := by decide +kernel
theorem d_Model_link_231 : decode prog_13_method_35_code 231 = .ok (.iload 5, 2) := by decide +kernel
theorem d_Model_link_233 : decode prog_13_method_35_code 233 = .ok (.imul, 1) := by decide +kernel
theorem d_Model_link_234 : decode prog_13_method_35_code 234 = .ok (.iload 6, 2) := by decide +kernel
theorem d_Model_link_236 : decode prog_13_method_35_code 236 = .ok (.iadd, 1) := by decide +kernel
theorem d_Model_link_237 : decode prog_13_method_35_code 237 = .ok (.iconst 1, 1) := by decide +kernel
theorem d_Model_link_238 : decode prog_13_method_35_code 238 = .ok (.bastore, 1) := by decide +kernel
theorem d_Model_link_239 : decode prog_13_method_35_code 239 = .ok (.iinc 6 1, 3) := by decide +kernel
theorem d_Model_link_242 : decode prog_13_method_35_code 242 = .ok (.goto (-49), 3) := by decide +kernel
theorem d_Model_link_245 : decode prog_13_method_35_code 245 = .ok (.iinc 5 1, 3) := by decide +kernel
theorem d_Model_link_248 : decode prog_13_method_35_code 248 = .ok (.goto (-92), 3) := by decide +kernel
theorem d_Model_link_251 : decode prog_13_method_35_code 251 = .ok (.return_, 1) := by decide +kernel
noncomputable def M_Model_link_b124 (u : gSt) : Option (gSt) :=
  some u
set_option maxHeartbeats 4000000 in
set_option maxRecDepth 100000 in
theorem t_Model_link_b124 (C : gX "TermDeskModel" prog_13_method_35_code 7 none 4 88 R cells slots cy D ρ A p s m args meth c) {u : gSt} {z : gSt} (hM : M_Model_link_b124 u = some z) (hR : gRtV p l e R s m args below meth c Q H0 cells slots cy D ρ A prog_13_method_35_code z) : gAt p l e R s m args below meth c Q H0 cells slots cy D ρ A 7 124 [] [] u := by
  intro ls H locs hl hP hS
  have hx := C.1
  have hb := C.2.1
  unfold M_Model_link_b124 at hM
  obtain rfl := Option.some.inj hM
  exact hR _ ls H locs d_Model_link_124 hP hS
noncomputable def M_Model_link_b239 (x2 : Int32) (x3 : Int32) (x5 : Int32) (x6 : Int32) (u : gSt) : Option ((Int32 × Int32 × Int32 × Int32 × gSt) ⊕ ((Int32 × Int32 × Int32 × gSt))) :=
  some (.inl (x2, x3, x5, x6 + (1 : Int32), u))
set_option maxHeartbeats 4000000 in
set_option maxRecDepth 100000 in
theorem t_Model_link_b239 (C : gX "TermDeskModel" prog_13_method_35_code 7 none 4 88 R cells slots cy D ρ A p s m args meth c) {x2 : Int32} {x3 : Int32} {x5 : Int32} {x6 : Int32} {u : gSt} {z : (Int32 × Int32 × Int32 × Int32 × gSt) ⊕ ((Int32 × Int32 × Int32 × gSt))} (hM : M_Model_link_b239 x2 x3 x5 x6 u = some z) (hN : ∀ x2' x3' x5' x6' u', z = .inl (x2', x3', x5', x6', u') → gAt p l e R s m args below meth c Q H0 cells slots cy D ρ A 7 193 [(0, .ref (ρ 42)), (2, .int (x2')), (3, .int (x3')), (5, .int (x5')), (6, .int (x6'))] [] (u')) (hE0 : ∀ x2' x3' x5' u', z = .inr (x2', x3', x5', u') → gAt p l e R s m args below meth c Q H0 cells slots cy D ρ A 7 245 [(0, .ref (ρ 42)), (2, .int (x2')), (3, .int (x3')), (5, .int (x5'))] [] (u')) : gAt p l e R s m args below meth c Q H0 cells slots cy D ρ A 7 239 [(0, .ref (ρ 42)), (2, .int x2), (3, .int x3), (5, .int x5), (6, .int x6)] [] u := by
  intro ls H locs hl hP hS
  have hx := C.1
  have hb := C.2.1
  unfold M_Model_link_b239 at hM
  refine lv_iinc (k := 4) (v := x6 + (1 : Int32)) (lv' := [(6, .int (x6 + (1 : Int32))), (0, .ref (ρ 42)), (2, .int x2), (3, .int x3), (5, .int x5)]) hx hb d_Model_link_239 hl rfl (congrArg (fun z => x6 + z) (by decide)) (by decide) rfl (fun ls hl => ?_)
  refine lv_goto (tgt := 193) hx hb d_Model_link_242 (by decide) ?_
  exact hN _ _ _ _ _ (Option.some.inj hM).symm ls H locs (lv_sub hl [1, 2, 3, 4, 0] rfl) hP hS
noncomputable def M_Model_link_b224 (x2 : Int32) (x3 : Int32) (x5 : Int32) (x6 : Int32) (u : gSt) : Option ((Int32 × Int32 × Int32 × Int32 × gSt) ⊕ ((Int32 × Int32 × Int32 × gSt))) :=
  gc (gIn (((200 : Int32) * x5) + x6) (gLen 51)) <| (some (gsA u 51 (gIx (((200 : Int32) * x5) + x6)) (1 : Int32))).bind fun u238 =>
  M_Model_link_b239 x2 x3 x5 x6 u238
set_option maxHeartbeats 4000000 in
set_option maxRecDepth 100000 in
theorem t_Model_link_b224 (C : gX "TermDeskModel" prog_13_method_35_code 7 none 4 88 R cells slots cy D ρ A p s m args meth c) {x2 : Int32} {x3 : Int32} {x5 : Int32} {x6 : Int32} {u : gSt} {z : (Int32 × Int32 × Int32 × Int32 × gSt) ⊕ ((Int32 × Int32 × Int32 × gSt))} (hM : M_Model_link_b224 x2 x3 x5 x6 u = some z) (hN : ∀ x2' x3' x5' x6' u', z = .inl (x2', x3', x5', x6', u') → gAt p l e R s m args below meth c Q H0 cells slots cy D ρ A 7 193 [(0, .ref (ρ 42)), (2, .int (x2')), (3, .int (x3')), (5, .int (x5')), (6, .int (x6'))] [] (u')) (hE0 : ∀ x2' x3' x5' u', z = .inr (x2', x3', x5', u') → gAt p l e R s m args below meth c Q H0 cells slots cy D ρ A 7 245 [(0, .ref (ρ 42)), (2, .int (x2')), (3, .int (x3')), (5, .int (x5'))] [] (u')) : gAt p l e R s m args below meth c Q H0 cells slots cy D ρ A 7 224 [(0, .ref (ρ 42)), (2, .int x2), (3, .int x3), (5, .int x5), (6, .int x6)] [] u := by
  intro ls H locs hl hP hS
  have hx := C.1
  have hb := C.2.1
  unfold M_Model_link_b224 at hM
  refine lv_aload_n hx hb d_Model_link_224 rfl (lv_at hl 0 rfl) ?_
  refine g_getR (b := 51) C hP gl_DeskModel_41 rfl rfl rfl d_Model_link_225 ?_
  refine lv_sipush (v := (200 : Int32)) hx hb d_Model_link_228 (by decide) ?_
  refine lv_iload hx hb d_Model_link_231 (lv_at hl 3 rfl) ?_
  refine lv_imul hx hb d_Model_link_233 ?_
  refine lv_iload hx hb d_Model_link_234 (lv_at hl 4 rfl) ?_
  refine lv_iadd hx hb d_Model_link_236 ?_
  refine lv_iconst (v := (1 : Int32)) hx hb d_Model_link_237 (by decide) ?_
  obtain ⟨hi238, hM⟩ := gc_some hM
  obtain ⟨u238, e238, hM⟩ := gb_some hM
  refine g_zast C hP hS rfl hi238 rfl d_Model_link_238 (fun H locs hP hS => ?_)
  rw [Option.some.inj e238] at hP
  exact t_Model_link_b239 C hM hN hE0 ls H locs (lv_sub hl [0, 1, 2, 3, 4] rfl) hP hS
noncomputable def M_Model_link_b193 (x2 : Int32) (x3 : Int32) (x5 : Int32) (x6 : Int32) (u : gSt) : Option ((Int32 × Int32 × Int32 × Int32 × gSt) ⊕ ((Int32 × Int32 × Int32 × gSt))) :=
  if (u.1 42 11) ≤ x6 then
    (some (.inr (x2, x3, x5, u)))
  else
    (if x6 = x3 then
      (M_Model_link_b224 x2 x3 x5 x6 u)
    else
      (gc (gIn (((200 : Int32) * x3) + x6) (gLen 51)) <| if (u.2.2.1 51 (gIx (((200 : Int32) * x3) + x6))) = (0 : Int32) then
        (M_Model_link_b239 x2 x3 x5 x6 u)
      else
        (M_Model_link_b224 x2 x3 x5 x6 u)))
set_option maxHeartbeats 4000000 in
set_option maxRecDepth 100000 in
theorem t_Model_link_b193 (C : gX "TermDeskModel" prog_13_method_35_code 7 none 4 88 R cells slots cy D ρ A p s m args meth c) {x2 : Int32} {x3 : Int32} {x5 : Int32} {x6 : Int32} {u : gSt} {z : (Int32 × Int32 × Int32 × Int32 × gSt) ⊕ ((Int32 × Int32 × Int32 × gSt))} (hM : M_Model_link_b193 x2 x3 x5 x6 u = some z) (hN : ∀ x2' x3' x5' x6' u', z = .inl (x2', x3', x5', x6', u') → gAt p l e R s m args below meth c Q H0 cells slots cy D ρ A 7 193 [(0, .ref (ρ 42)), (2, .int (x2')), (3, .int (x3')), (5, .int (x5')), (6, .int (x6'))] [] (u')) (hE0 : ∀ x2' x3' x5' u', z = .inr (x2', x3', x5', u') → gAt p l e R s m args below meth c Q H0 cells slots cy D ρ A 7 245 [(0, .ref (ρ 42)), (2, .int (x2')), (3, .int (x3')), (5, .int (x5'))] [] (u')) : gAt p l e R s m args below meth c Q H0 cells slots cy D ρ A 7 193 [(0, .ref (ρ 42)), (2, .int x2), (3, .int x3), (5, .int x5), (6, .int x6)] [] u := by
  intro ls H locs hl hP hS
  have hx := C.1
  have hb := C.2.1
  unfold M_Model_link_b193 at hM
  refine lv_iload hx hb d_Model_link_193 (lv_at hl 4 rfl) ?_
  refine lv_aload_n hx hb d_Model_link_195 rfl (lv_at hl 0 rfl) ?_
  refine g_getI C hP gl_DeskModel_184 rfl rfl d_Model_link_196 ?_
  refine lv_icmp_ge (tgt := 245) hx hb d_Model_link_199 (by decide) (fun hc199 => ?_) (fun hc199 => ?_)
  · replace hM := gi_t hc199 hM
    exact hE0 _ _ _ _ (Option.some.inj hM).symm ls H locs (lv_sub hl [0, 1, 2, 3] rfl) hP hS
  · replace hM := gi_f hc199 hM
    refine lv_iload hx hb d_Model_link_202 (lv_at hl 4 rfl) ?_
    refine lv_iload_n hx hb d_Model_link_204 rfl (lv_at hl 2 rfl) ?_
    refine lv_icmp_eq (tgt := 224) hx hb d_Model_link_205 (by decide) (fun hc205 => ?_) (fun hc205 => ?_)
    · replace hM := gi_t hc205 hM
      exact t_Model_link_b224 C hM hN hE0 ls H locs (lv_sub hl [0, 1, 2, 3, 4] rfl) hP hS
    · replace hM := gi_f hc205 hM
      refine lv_aload_n hx hb d_Model_link_208 rfl (lv_at hl 0 rfl) ?_
      refine g_getR (b := 51) C hP gl_DeskModel_41 rfl rfl rfl d_Model_link_209 ?_
      refine lv_sipush (v := (200 : Int32)) hx hb d_Model_link_212 (by decide) ?_
      refine lv_iload_n hx hb d_Model_link_215 rfl (lv_at hl 2 rfl) ?_
      refine lv_imul hx hb d_Model_link_216 ?_
      refine lv_iload hx hb d_Model_link_217 (lv_at hl 4 rfl) ?_
      refine lv_iadd hx hb d_Model_link_219 ?_
      obtain ⟨hi220, hM⟩ := gc_some hM
      refine g_zald C hP rfl hi220 d_Model_link_220 ?_
      refine lv_if_eq (tgt := 239) hx hb d_Model_link_221 (by decide) (fun hc221 => ?_) (fun hc221 => ?_)
      · replace hM := gi_t hc221 hM
        exact t_Model_link_b239 C hM hN hE0 ls H locs (lv_sub hl [0, 1, 2, 3, 4] rfl) hP hS
      · replace hM := gi_f hc221 hM
        exact t_Model_link_b224 C hM hN hE0 ls H locs (lv_sub hl [0, 1, 2, 3, 4] rfl) hP hS
noncomputable def M_Model_link_L193 : (Int32 × Int32 × Int32 × Int32 × gSt) → Option ((Int32 × Int32 × Int32 × Int32 × gSt) ⊕ ((Int32 × Int32 × Int32 × gSt))) := fun x => M_Model_link_b193 x.1 x.2.1 x.2.2.1 x.2.2.2.1 x.2.2.2.2
theorem t_Model_link_L193 (C : gX "TermDeskModel" prog_13_method_35_code 7 none 4 88 R cells slots cy D ρ A p s m args meth c) {x2 : Int32} {x3 : Int32} {x5 : Int32} {x6 : Int32} {u : gSt} {yy : (Int32 × Int32 × Int32 × gSt)} (hL : gLp M_Model_link_L193 (x2, x3, x5, x6, u) = some yy) (hE0 : (∀ y', yy = y' → gAt p l e R s m args below meth c Q H0 cells slots cy D ρ A 7 245 [(0, .ref (ρ 42)), (2, .int (y'.1)), (3, .int (y'.2.1)), (5, .int (y'.2.2.1))] [] (y'.2.2.2))) : gAt p l e R s m args below meth c Q H0 cells slots cy D ρ A 7 193 [(0, .ref (ρ 42)), (2, .int x2), (3, .int x3), (5, .int x5), (6, .int x6)] [] u :=
  g_loop (f := M_Model_link_L193) (P := fun x => gAt p l e R s m args below meth c Q H0 cells slots cy D ρ A 7 193 [(0, .ref (ρ 42)), (2, .int x.1), (3, .int x.2.1), (5, .int x.2.2.1), (6, .int x.2.2.2.1)] [] x.2.2.2.2) (E := fun yy => (∀ y', yy = y' → gAt p l e R s m args below meth c Q H0 cells slots cy D ρ A 7 245 [(0, .ref (ρ 42)), (2, .int (y'.1)), (3, .int (y'.2.1)), (5, .int (y'.2.2.1))] [] (y'.2.2.2))) (fun x z hf hN hE => t_Model_link_b193 C hf (fun x2' x3' x5' x6' u' h => hN (x2', x3', x5', x6', u') h) (fun x2' x3' x5' u' h => (hE _ h) (x2', x3', x5', u') rfl)) hL hE0
noncomputable def M_Model_link_b245 (x2 : Int32) (x3 : Int32) (x5 : Int32) (u : gSt) : Option ((Int32 × Int32 × Int32 × gSt) ⊕ ((gSt))) :=
  some (.inl (x2, x3, x5 + (1 : Int32), u))
set_option maxHeartbeats 4000000 in
set_option maxRecDepth 100000 in
theorem t_Model_link_b245 (C : gX "TermDeskModel" prog_13_method_35_code 7 none 4 88 R cells slots cy D ρ A p s m args meth c) {x2 : Int32} {x3 : Int32} {x5 : Int32} {u : gSt} {z : (Int32 × Int32 × Int32 × gSt) ⊕ ((gSt))} (hM : M_Model_link_b245 x2 x3 x5 u = some z) (hN : ∀ x2' x3' x5' u', z = .inl (x2', x3', x5', u') → gAt p l e R s m args below meth c Q H0 cells slots cy D ρ A 7 156 [(0, .ref (ρ 42)), (2, .int (x2')), (3, .int (x3')), (5, .int (x5'))] [] (u')) (hE0 : ∀ u', z = .inr u' → gAt p l e R s m args below meth c Q H0 cells slots cy D ρ A 7 251 [] [] (u')) : gAt p l e R s m args below meth c Q H0 cells slots cy D ρ A 7 245 [(0, .ref (ρ 42)), (2, .int x2), (3, .int x3), (5, .int x5)] [] u := by
  intro ls H locs hl hP hS
  have hx := C.1
  have hb := C.2.1
  unfold M_Model_link_b245 at hM
  refine lv_iinc (k := 3) (v := x5 + (1 : Int32)) (lv' := [(5, .int (x5 + (1 : Int32))), (0, .ref (ρ 42)), (2, .int x2), (3, .int x3)]) hx hb d_Model_link_245 hl rfl (congrArg (fun z => x5 + z) (by decide)) (by decide) rfl (fun ls hl => ?_)
  refine lv_goto (tgt := 156) hx hb d_Model_link_248 (by decide) ?_
  exact hN _ _ _ _ (Option.some.inj hM).symm ls H locs (lv_sub hl [1, 2, 3, 0] rfl) hP hS
noncomputable def M_Model_link_b190 (x2 : Int32) (x3 : Int32) (x5 : Int32) (u : gSt) : Option ((Int32 × Int32 × Int32 × gSt) ⊕ ((gSt))) :=
  (gLp M_Model_link_L193 (x2, x3, x5, (0 : Int32), u)).bind fun y193 =>
  M_Model_link_b245 y193.1 y193.2.1 y193.2.2.1 y193.2.2.2
set_option maxHeartbeats 4000000 in
set_option maxRecDepth 100000 in
theorem t_Model_link_b190 (C : gX "TermDeskModel" prog_13_method_35_code 7 none 4 88 R cells slots cy D ρ A p s m args meth c) {x2 : Int32} {x3 : Int32} {x5 : Int32} {u : gSt} {z : (Int32 × Int32 × Int32 × gSt) ⊕ ((gSt))} (hM : M_Model_link_b190 x2 x3 x5 u = some z) (hN : ∀ x2' x3' x5' u', z = .inl (x2', x3', x5', u') → gAt p l e R s m args below meth c Q H0 cells slots cy D ρ A 7 156 [(0, .ref (ρ 42)), (2, .int (x2')), (3, .int (x3')), (5, .int (x5'))] [] (u')) (hE0 : ∀ u', z = .inr u' → gAt p l e R s m args below meth c Q H0 cells slots cy D ρ A 7 251 [] [] (u')) : gAt p l e R s m args below meth c Q H0 cells slots cy D ρ A 7 190 [(0, .ref (ρ 42)), (2, .int x2), (3, .int x3), (5, .int x5)] [] u := by
  intro ls H locs hl hP hS
  have hx := C.1
  have hb := C.2.1
  unfold M_Model_link_b190 at hM
  refine lv_iconst (v := (0 : Int32)) hx hb d_Model_link_190 (by decide) ?_
  refine lv_istore (lv' := [(6, .int (0 : Int32)), (0, .ref (ρ 42)), (2, .int x2), (3, .int x3), (5, .int x5)]) hx hb d_Model_link_191 hl (by decide) rfl (fun ls hl => ?_)
  obtain ⟨y193, hL193, hM⟩ := gb_some hM
  refine t_Model_link_L193 C hL193 (fun y193_0 hy => ?_) ls H locs (lv_sub hl [1, 2, 3, 4, 0] rfl) hP hS
  · subst hy
    intro ls H locs hl hP hS
    exact t_Model_link_b245 C hM hN hE0 ls H locs (lv_sub hl [0, 1, 2, 3] rfl) hP hS
noncomputable def M_Model_link_b156 (x2 : Int32) (x3 : Int32) (x5 : Int32) (u : gSt) : Option ((Int32 × Int32 × Int32 × gSt) ⊕ ((gSt))) :=
  if (u.1 42 11) ≤ x5 then
    (some (.inr u))
  else
    (if x5 = x2 then
      (M_Model_link_b190 x2 x3 x5 u)
    else
      (gc (gIn (((200 : Int32) * x5) + x2) (gLen 51)) <| if (u.2.2.1 51 (gIx (((200 : Int32) * x5) + x2))) = (0 : Int32) then
        (M_Model_link_b245 x2 x3 x5 u)
      else
        (M_Model_link_b190 x2 x3 x5 u)))
set_option maxHeartbeats 4000000 in
set_option maxRecDepth 100000 in
theorem t_Model_link_b156 (C : gX "TermDeskModel" prog_13_method_35_code 7 none 4 88 R cells slots cy D ρ A p s m args meth c) {x2 : Int32} {x3 : Int32} {x5 : Int32} {u : gSt} {z : (Int32 × Int32 × Int32 × gSt) ⊕ ((gSt))} (hM : M_Model_link_b156 x2 x3 x5 u = some z) (hN : ∀ x2' x3' x5' u', z = .inl (x2', x3', x5', u') → gAt p l e R s m args below meth c Q H0 cells slots cy D ρ A 7 156 [(0, .ref (ρ 42)), (2, .int (x2')), (3, .int (x3')), (5, .int (x5'))] [] (u')) (hE0 : ∀ u', z = .inr u' → gAt p l e R s m args below meth c Q H0 cells slots cy D ρ A 7 251 [] [] (u')) : gAt p l e R s m args below meth c Q H0 cells slots cy D ρ A 7 156 [(0, .ref (ρ 42)), (2, .int x2), (3, .int x3), (5, .int x5)] [] u := by
  intro ls H locs hl hP hS
  have hx := C.1
  have hb := C.2.1
  unfold M_Model_link_b156 at hM
  refine lv_iload hx hb d_Model_link_156 (lv_at hl 3 rfl) ?_
  refine lv_aload_n hx hb d_Model_link_158 rfl (lv_at hl 0 rfl) ?_
  refine g_getI C hP gl_DeskModel_184 rfl rfl d_Model_link_159 ?_
  refine lv_icmp_ge (tgt := 251) hx hb d_Model_link_162 (by decide) (fun hc162 => ?_) (fun hc162 => ?_)
  · replace hM := gi_t hc162 hM
    exact hE0 _ (Option.some.inj hM).symm ls H locs (lv_sub hl [] rfl) hP hS
  · replace hM := gi_f hc162 hM
    refine lv_iload hx hb d_Model_link_165 (lv_at hl 3 rfl) ?_
    refine lv_iload_n hx hb d_Model_link_167 rfl (lv_at hl 1 rfl) ?_
    refine lv_icmp_eq (tgt := 190) hx hb d_Model_link_168 (by decide) (fun hc168 => ?_) (fun hc168 => ?_)
    · replace hM := gi_t hc168 hM
      exact t_Model_link_b190 C hM hN hE0 ls H locs (lv_sub hl [0, 1, 2, 3] rfl) hP hS
    · replace hM := gi_f hc168 hM
      refine lv_aload_n hx hb d_Model_link_171 rfl (lv_at hl 0 rfl) ?_
      refine g_getR (b := 51) C hP gl_DeskModel_41 rfl rfl rfl d_Model_link_172 ?_
      refine lv_sipush (v := (200 : Int32)) hx hb d_Model_link_175 (by decide) ?_
      refine lv_iload hx hb d_Model_link_178 (lv_at hl 3 rfl) ?_
      refine lv_imul hx hb d_Model_link_180 ?_
      refine lv_iload_n hx hb d_Model_link_181 rfl (lv_at hl 1 rfl) ?_
      refine lv_iadd hx hb d_Model_link_182 ?_
      obtain ⟨hi183, hM⟩ := gc_some hM
      refine g_zald C hP rfl hi183 d_Model_link_183 ?_
      refine lv_if_ne (tgt := 190) hx hb d_Model_link_184 (by decide) (fun hc184 => ?_) (fun hc184 => ?_)
      · replace hM := gi_f hc184 hM
        exact t_Model_link_b190 C hM hN hE0 ls H locs (lv_sub hl [0, 1, 2, 3] rfl) hP hS
      · replace hM := gi_t hc184 hM
        refine lv_goto (tgt := 245) hx hb d_Model_link_187 (by decide) ?_
        exact t_Model_link_b245 C hM hN hE0 ls H locs (lv_sub hl [0, 1, 2, 3] rfl) hP hS
noncomputable def M_Model_link_L156 : (Int32 × Int32 × Int32 × gSt) → Option ((Int32 × Int32 × Int32 × gSt) ⊕ ((gSt))) := fun x => M_Model_link_b156 x.1 x.2.1 x.2.2.1 x.2.2.2
theorem t_Model_link_L156 (C : gX "TermDeskModel" prog_13_method_35_code 7 none 4 88 R cells slots cy D ρ A p s m args meth c) {x2 : Int32} {x3 : Int32} {x5 : Int32} {u : gSt} {yy : (gSt)} (hL : gLp M_Model_link_L156 (x2, x3, x5, u) = some yy) (hE0 : (∀ y', yy = y' → gAt p l e R s m args below meth c Q H0 cells slots cy D ρ A 7 251 [] [] (y'))) : gAt p l e R s m args below meth c Q H0 cells slots cy D ρ A 7 156 [(0, .ref (ρ 42)), (2, .int x2), (3, .int x3), (5, .int x5)] [] u :=
  g_loop (f := M_Model_link_L156) (P := fun x => gAt p l e R s m args below meth c Q H0 cells slots cy D ρ A 7 156 [(0, .ref (ρ 42)), (2, .int x.1), (3, .int x.2.1), (5, .int x.2.2.1)] [] x.2.2.2) (E := fun yy => (∀ y', yy = y' → gAt p l e R s m args below meth c Q H0 cells slots cy D ρ A 7 251 [] [] (y'))) (fun x z hf hN hE => t_Model_link_b156 C hf (fun x2' x3' x5' u' h => hN (x2', x3', x5', u') h) (fun u' h => (hE _ h) u' rfl)) hL hE0
noncomputable def M_Model_link_b113 (x2 : Int32) (x3 : Int32) (x4 : Int32) (s0 : Int32) (s1 : Int32) (u : gSt) : Option (gSt) :=
  (M_Model_ends s1 s0 u).bind fun q113 =>
  if q113.1 = (0 : Int32) then
    (M_Model_link_b124 q113.2)
  else
    (if x4 = (0 : Int32) then
      (gc (gIn (((200 : Int32) * x2) + x3) (gLen 50)) <| (some (gsA q113.2 50 (gIx (((200 : Int32) * x2) + x3)) (1 : Int32))).bind fun u137 =>
      (some (gsF u137 42 18 ((u137.1 42 18) + (1 : Int32)))).bind fun u145 =>
      (some (gsF u145 42 17 (0 : Int32))).bind fun u150 =>
      (gLp M_Model_link_L156 (x2, x3, (0 : Int32), u150)).bind fun y156 =>
      some y156)
    else
      (M_Model_link_b124 q113.2))
set_option maxHeartbeats 4000000 in
set_option maxRecDepth 100000 in
theorem t_Model_link_b113 (C : gX "TermDeskModel" prog_13_method_35_code 7 none 4 88 R cells slots cy D ρ A p s m args meth c) {x2 : Int32} {x3 : Int32} {x4 : Int32} {s0 : Int32} {s1 : Int32} {u : gSt} {z : gSt} (hM : M_Model_link_b113 x2 x3 x4 s0 s1 u = some z) (hR : gRtV p l e R s m args below meth c Q H0 cells slots cy D ρ A prog_13_method_35_code z) : gAt p l e R s m args below meth c Q H0 cells slots cy D ρ A 7 113 [(0, .ref (ρ 42)), (2, .int x2), (3, .int x3), (4, .int x4)] [.int s0, .int s1, .ref (ρ 42)] u := by
  intro ls H locs hl hP hS
  have hx := C.1
  have hb := C.2.1
  unfold M_Model_link_b113 at hM
  obtain ⟨q113, hq113, hM⟩ := gb_some hM
  refine g_backI (g_runV (As := [.int s1, .int s0]) C hP (c_Model_ends C.2.2.2.2.2.2.2.2.1 hq113) gi_Model_ends gm_Model_187 rfl rfl (by decide) (by decide) hl.1 rfl (Nat.le_of_ble_eq_true rfl) d_Model_link_113) hS (fun H locs hP hS => ?_)
  refine lv_if_eq (tgt := 124) hx hb d_Model_link_116 (by decide) (fun hc116 => ?_) (fun hc116 => ?_)
  · replace hM := gi_t hc116 hM
    exact t_Model_link_b124 C hM hR ls H locs (lv_sub hl [] rfl) hP hS
  · replace hM := gi_f hc116 hM
    refine lv_iload hx hb d_Model_link_119 (lv_at hl 3 rfl) ?_
    refine lv_if_eq (tgt := 125) hx hb d_Model_link_121 (by decide) (fun hc121 => ?_) (fun hc121 => ?_)
    · replace hM := gi_t hc121 hM
      refine lv_aload_n hx hb d_Model_link_125 rfl (lv_at hl 0 rfl) ?_
      refine g_getR (b := 50) C hP gl_DeskModel_37 rfl rfl rfl d_Model_link_126 ?_
      refine lv_sipush (v := (200 : Int32)) hx hb d_Model_link_129 (by decide) ?_
      refine lv_iload_n hx hb d_Model_link_132 rfl (lv_at hl 1 rfl) ?_
      refine lv_imul hx hb d_Model_link_133 ?_
      refine lv_iload_n hx hb d_Model_link_134 rfl (lv_at hl 2 rfl) ?_
      refine lv_iadd hx hb d_Model_link_135 ?_
      refine lv_iconst (v := (1 : Int32)) hx hb d_Model_link_136 (by decide) ?_
      obtain ⟨hi137, hM⟩ := gc_some hM
      obtain ⟨u137, e137, hM⟩ := gb_some hM
      refine g_zast C hP hS rfl hi137 rfl d_Model_link_137 (fun H locs hP hS => ?_)
      rw [Option.some.inj e137] at hP
      refine lv_aload_n hx hb d_Model_link_138 rfl (lv_at hl 0 rfl) ?_
      refine lv_dup hx hb d_Model_link_139 rfl ?_
      refine g_getI C hP gl_DeskModel_197 rfl rfl d_Model_link_140 ?_
      refine lv_iconst (v := (1 : Int32)) hx hb d_Model_link_143 (by decide) ?_
      refine lv_iadd hx hb d_Model_link_144 ?_
      obtain ⟨u145, e145, hM⟩ := gb_some hM
      refine g_putI C hP hS gl_DeskModel_197 rfl rfl gq_8_18 d_Model_link_145 (fun H locs hP hS => ?_)
      rw [Option.some.inj e145] at hP
      refine lv_aload_n hx hb d_Model_link_148 rfl (lv_at hl 0 rfl) ?_
      refine lv_iconst (v := (0 : Int32)) hx hb d_Model_link_149 (by decide) ?_
      obtain ⟨u150, e150, hM⟩ := gb_some hM
      refine g_putZ C hP hS gl_DeskModel_200 rfl rfl gq_8_17 rfl d_Model_link_150 (fun H locs hP hS => ?_)
      rw [Option.some.inj e150] at hP
      refine lv_iconst (v := (0 : Int32)) hx hb d_Model_link_153 (by decide) ?_
      refine lv_istore (lv' := [(5, .int (0 : Int32)), (0, .ref (ρ 42)), (2, .int x2), (3, .int x3), (4, .int x4)]) hx hb d_Model_link_154 hl (by decide) rfl (fun ls hl => ?_)
      obtain ⟨y156, hL156, hM⟩ := gb_some hM
      refine t_Model_link_L156 C hL156 (fun y156_0 hy => ?_) ls H locs (lv_sub hl [1, 2, 3, 0] rfl) hP hS
      · subst hy
        intro ls H locs hl hP hS
        obtain rfl := Option.some.inj hM
        exact hR _ ls H locs d_Model_link_251 hP hS
    · replace hM := gi_f hc121 hM
      exact t_Model_link_b124 C hM hR ls H locs (lv_sub hl [] rfl) hP hS
noncomputable def M_Model_link_b108 (x2 : Int32) (x3 : Int32) (x4 : Int32) (s0 : Int32) (u : gSt) : Option (gSt) :=
  M_Model_link_b113 x2 x3 x4 (1 : Int32) s0 u
set_option maxHeartbeats 4000000 in
set_option maxRecDepth 100000 in
theorem t_Model_link_b108 (C : gX "TermDeskModel" prog_13_method_35_code 7 none 4 88 R cells slots cy D ρ A p s m args meth c) {x2 : Int32} {x3 : Int32} {x4 : Int32} {s0 : Int32} {u : gSt} {z : gSt} (hM : M_Model_link_b108 x2 x3 x4 s0 u = some z) (hR : gRtV p l e R s m args below meth c Q H0 cells slots cy D ρ A prog_13_method_35_code z) : gAt p l e R s m args below meth c Q H0 cells slots cy D ρ A 7 108 [(0, .ref (ρ 42)), (2, .int x2), (3, .int x3), (4, .int x4)] [.int s0, .ref (ρ 42)] u := by
  intro ls H locs hl hP hS
  have hx := C.1
  have hb := C.2.1
  unfold M_Model_link_b108 at hM
  refine lv_iconst (v := (1 : Int32)) hx hb d_Model_link_108 (by decide) ?_
  refine lv_goto (tgt := 113) hx hb d_Model_link_109 (by decide) ?_
  exact t_Model_link_b113 C hM hR ls H locs (lv_sub hl [0, 1, 2, 3] rfl) hP hS
noncomputable def M_Model_link_b77 (x1 : Int32) (x2 : Int32) (x3 : Int32) (u : gSt) : Option (gSt) :=
  gc (gIn (((200 : Int32) * x2) + x3) (gLen 50)) <| if (u.2.2.1 50 (gIx (((200 : Int32) * x2) + x3))) = (0 : Int32) then
    (if (600 : Int32) ≤ (u.1 42 18) then
      (M_Model_link_b113 x2 x3 (u.2.2.1 50 (gIx (((200 : Int32) * x2) + x3))) (0 : Int32) x1 u)
    else
      (M_Model_link_b108 x2 x3 (u.2.2.1 50 (gIx (((200 : Int32) * x2) + x3))) x1 u))
  else
    (M_Model_link_b108 x2 x3 (u.2.2.1 50 (gIx (((200 : Int32) * x2) + x3))) x1 u)
set_option maxHeartbeats 4000000 in
set_option maxRecDepth 100000 in
theorem t_Model_link_b77 (C : gX "TermDeskModel" prog_13_method_35_code 7 none 4 88 R cells slots cy D ρ A p s m args meth c) {x1 : Int32} {x2 : Int32} {x3 : Int32} {u : gSt} {z : gSt} (hM : M_Model_link_b77 x1 x2 x3 u = some z) (hR : gRtV p l e R s m args below meth c Q H0 cells slots cy D ρ A prog_13_method_35_code z) : gAt p l e R s m args below meth c Q H0 cells slots cy D ρ A 7 77 [(0, .ref (ρ 42)), (1, .int x1), (2, .int x2), (3, .int x3)] [] u := by
  intro ls H locs hl hP hS
  have hx := C.1
  have hb := C.2.1
  unfold M_Model_link_b77 at hM
  refine lv_aload_n hx hb d_Model_link_77 rfl (lv_at hl 0 rfl) ?_
  refine g_getR (b := 50) C hP gl_DeskModel_37 rfl rfl rfl d_Model_link_78 ?_
  refine lv_sipush (v := (200 : Int32)) hx hb d_Model_link_81 (by decide) ?_
  refine lv_iload_n hx hb d_Model_link_84 rfl (lv_at hl 2 rfl) ?_
  refine lv_imul hx hb d_Model_link_85 ?_
  refine lv_iload_n hx hb d_Model_link_86 rfl (lv_at hl 3 rfl) ?_
  refine lv_iadd hx hb d_Model_link_87 ?_
  obtain ⟨hi88, hM⟩ := gc_some hM
  refine g_zald C hP rfl hi88 d_Model_link_88 ?_
  refine lv_istore (lv' := [(4, .int (u.2.2.1 50 (gIx (((200 : Int32) * x2) + x3)))), (0, .ref (ρ 42)), (1, .int x1), (2, .int x2), (3, .int x3)]) hx hb d_Model_link_89 hl (by decide) rfl (fun ls hl => ?_)
  refine lv_aload_n hx hb d_Model_link_91 rfl (lv_at hl 1 rfl) ?_
  refine lv_iload_n hx hb d_Model_link_92 rfl (lv_at hl 2 rfl) ?_
  refine lv_iload hx hb d_Model_link_93 (lv_at hl 0 rfl) ?_
  refine lv_if_ne (tgt := 108) hx hb d_Model_link_95 (by decide) (fun hc95 => ?_) (fun hc95 => ?_)
  · replace hM := gi_f hc95 hM
    exact t_Model_link_b108 C hM hR ls H locs (lv_sub hl [1, 3, 4, 0] rfl) hP hS
  · replace hM := gi_t hc95 hM
    refine lv_aload_n hx hb d_Model_link_98 rfl (lv_at hl 1 rfl) ?_
    refine g_getI C hP gl_DeskModel_197 rfl rfl d_Model_link_99 ?_
    refine lv_sipush (v := (600 : Int32)) hx hb d_Model_link_102 (by decide) ?_
    refine lv_icmp_ge (tgt := 112) hx hb d_Model_link_105 (by decide) (fun hc105 => ?_) (fun hc105 => ?_)
    · replace hM := gi_t hc105 hM
      refine lv_iconst (v := (0 : Int32)) hx hb d_Model_link_112 (by decide) ?_
      exact t_Model_link_b113 C hM hR ls H locs (lv_sub hl [1, 3, 4, 0] rfl) hP hS
    · replace hM := gi_f hc105 hM
      exact t_Model_link_b108 C hM hR ls H locs (lv_sub hl [1, 3, 4, 0] rfl) hP hS
noncomputable def M_Model_link_b56 (x1 : Int32) (x2 : Int32) (x3 : Int32) (u : gSt) : Option (gSt) :=
  gc (gIn x3 (gLen 49)) <| if (u.2.2.1 49 (gIx x3)) = (1 : Int32) then
    ((M_Model_stop (6 : Int32) (u.1 42 22) u).bind fun q73 =>
    M_Model_link_b77 x1 x2 x3 q73.2)
  else
    (M_Model_link_b77 x1 x2 x3 u)
set_option maxHeartbeats 4000000 in
set_option maxRecDepth 100000 in
theorem t_Model_link_b56 (C : gX "TermDeskModel" prog_13_method_35_code 7 none 4 88 R cells slots cy D ρ A p s m args meth c) {x1 : Int32} {x2 : Int32} {x3 : Int32} {u : gSt} {z : gSt} (hM : M_Model_link_b56 x1 x2 x3 u = some z) (hR : gRtV p l e R s m args below meth c Q H0 cells slots cy D ρ A prog_13_method_35_code z) : gAt p l e R s m args below meth c Q H0 cells slots cy D ρ A 7 56 [(0, .ref (ρ 42)), (1, .int x1), (2, .int x2), (3, .int x3)] [] u := by
  intro ls H locs hl hP hS
  have hx := C.1
  have hb := C.2.1
  unfold M_Model_link_b56 at hM
  refine lv_aload_n hx hb d_Model_link_56 rfl (lv_at hl 0 rfl) ?_
  refine g_getR (b := 49) C hP gl_DeskModel_34 rfl rfl rfl d_Model_link_57 ?_
  refine lv_iload_n hx hb d_Model_link_60 rfl (lv_at hl 3 rfl) ?_
  obtain ⟨hi61, hM⟩ := gc_some hM
  refine g_iald C hP rfl hi61 d_Model_link_61 ?_
  refine lv_iconst (v := (1 : Int32)) hx hb d_Model_link_62 (by decide) ?_
  refine lv_icmp_ne (tgt := 77) hx hb d_Model_link_63 (by decide) (fun hc63 => ?_) (fun hc63 => ?_)
  · replace hM := gi_f hc63 hM
    exact t_Model_link_b77 C hM hR ls H locs (lv_sub hl [0, 1, 2, 3] rfl) hP hS
  · replace hM := gi_t hc63 hM
    refine lv_aload_n hx hb d_Model_link_66 rfl (lv_at hl 0 rfl) ?_
    refine lv_bipush (v := (6 : Int32)) hx hb d_Model_link_67 (by decide) ?_
    refine lv_aload_n hx hb d_Model_link_69 rfl (lv_at hl 0 rfl) ?_
    refine g_getI C hP gl_DeskModel_150 rfl rfl d_Model_link_70 ?_
    obtain ⟨q73, hq73, hM⟩ := gb_some hM
    refine g_backI (g_runV (As := [.int (6 : Int32), .int (u.1 42 22)]) C hP (c_Model_stop C.2.2.2.2.2.2.2.2.1 hq73) gi_Model_stop gm_Model_146 rfl rfl (by decide) (by decide) hl.1 rfl (Nat.le_of_ble_eq_true rfl) d_Model_link_73) hS (fun H locs hP hS => ?_)
    refine lv_pop hx hb d_Model_link_76 rfl ?_
    exact t_Model_link_b77 C hM hR ls H locs (lv_sub hl [0, 1, 2, 3] rfl) hP hS
noncomputable def M_Model_link_b46 (x1 : Int32) (x2 : Int32) (x3 : Int32) (u : gSt) : Option (gSt) :=
  (M_Model_stop (5 : Int32) (u.1 42 22) u).bind fun q52 =>
  M_Model_link_b56 x1 x2 x3 q52.2
set_option maxHeartbeats 4000000 in
set_option maxRecDepth 100000 in
theorem t_Model_link_b46 (C : gX "TermDeskModel" prog_13_method_35_code 7 none 4 88 R cells slots cy D ρ A p s m args meth c) {x1 : Int32} {x2 : Int32} {x3 : Int32} {u : gSt} {z : gSt} (hM : M_Model_link_b46 x1 x2 x3 u = some z) (hR : gRtV p l e R s m args below meth c Q H0 cells slots cy D ρ A prog_13_method_35_code z) : gAt p l e R s m args below meth c Q H0 cells slots cy D ρ A 7 46 [(0, .ref (ρ 42)), (1, .int x1), (2, .int x2), (3, .int x3)] [] u := by
  intro ls H locs hl hP hS
  have hx := C.1
  have hb := C.2.1
  unfold M_Model_link_b46 at hM
  refine lv_aload_n hx hb d_Model_link_46 rfl (lv_at hl 0 rfl) ?_
  refine lv_iconst (v := (5 : Int32)) hx hb d_Model_link_47 (by decide) ?_
  refine lv_aload_n hx hb d_Model_link_48 rfl (lv_at hl 0 rfl) ?_
  refine g_getI C hP gl_DeskModel_150 rfl rfl d_Model_link_49 ?_
  obtain ⟨q52, hq52, hM⟩ := gb_some hM
  refine g_backI (g_runV (As := [.int (5 : Int32), .int (u.1 42 22)]) C hP (c_Model_stop C.2.2.2.2.2.2.2.2.1 hq52) gi_Model_stop gm_Model_146 rfl rfl (by decide) (by decide) hl.1 rfl (Nat.le_of_ble_eq_true rfl) d_Model_link_52) hS (fun H locs hP hS => ?_)
  refine lv_pop hx hb d_Model_link_55 rfl ?_
  exact t_Model_link_b56 C hM hR ls H locs (lv_sub hl [0, 1, 2, 3] rfl) hP hS
noncomputable def M_Model_link (x1 : Int32) (u : gSt) : Option (gSt) :=
  (M_Model_youngTerm u).bind fun q1 =>
  if (q1.2.1 42 2) = (0 : Int32) then
    ((M_Model_termNext q1.2).bind fun q14 =>
    if (q14.2.1 42 2) = (0 : Int32) then
      (if q1.1 = q14.1 then
        (M_Model_link_b46 x1 q1.1 q14.1 q14.2)
      else
        (gc (gIn (((200 : Int32) * q14.1) + q1.1) (gLen 51)) <| if (q14.2.2.2.1 51 (gIx (((200 : Int32) * q14.1) + q1.1))) = (0 : Int32) then
          (M_Model_link_b56 x1 q1.1 q14.1 q14.2)
        else
          (M_Model_link_b46 x1 q1.1 q14.1 q14.2)))
    else
      (some q14.2))
  else
    (some q1.2)
set_option maxHeartbeats 4000000 in
set_option maxRecDepth 100000 in
theorem t_Model_link (C : gX "TermDeskModel" prog_13_method_35_code 7 none 4 88 R cells slots cy D ρ A p s m args meth c) {x1 : Int32} {u : gSt} {z : gSt} (hM : M_Model_link x1 u = some z) (hR : gRtV p l e R s m args below meth c Q H0 cells slots cy D ρ A prog_13_method_35_code z) : gAt p l e R s m args below meth c Q H0 cells slots cy D ρ A 7 0 [(0, .ref (ρ 42)), (1, .int x1)] [] u := by
  intro ls H locs hl hP hS
  have hx := C.1
  have hb := C.2.1
  unfold M_Model_link at hM
  refine lv_aload_n hx hb d_Model_link_0 rfl (lv_at hl 0 rfl) ?_
  obtain ⟨q1, hq1, hM⟩ := gb_some hM
  refine g_backI (g_runV (As := []) C hP (c_Model_youngTerm C.2.2.2.2.2.2.2.2.1 hq1) gi_Model_youngTerm gm_Model_194 rfl rfl (by decide) (by decide) hl.1 rfl (Nat.le_of_ble_eq_true rfl) d_Model_link_1) hS (fun H locs hP hS => ?_)
  refine lv_istore_n (lv' := [(2, .int q1.1), (0, .ref (ρ 42)), (1, .int x1)]) hx hb d_Model_link_4 rfl hl (by decide) rfl (fun ls hl => ?_)
  refine lv_aload_n hx hb d_Model_link_5 rfl (lv_at hl 1 rfl) ?_
  refine g_getI C hP gl_DeskModel_137 rfl rfl d_Model_link_6 ?_
  refine lv_if_eq (tgt := 13) hx hb d_Model_link_9 (by decide) (fun hc9 => ?_) (fun hc9 => ?_)
  · replace hM := gi_t hc9 hM
    refine lv_aload_n hx hb d_Model_link_13 rfl (lv_at hl 1 rfl) ?_
    obtain ⟨q14, hq14, hM⟩ := gb_some hM
    refine g_backI (g_runV (As := []) C hP (c_Model_termNext C.2.2.2.2.2.2.2.2.1 hq14) gi_Model_termNext gm_Model_178 rfl rfl (by decide) (by decide) hl.1 rfl (Nat.le_of_ble_eq_true rfl) d_Model_link_14) hS (fun H locs hP hS => ?_)
    refine lv_istore_n (lv' := [(3, .int q14.1), (2, .int q1.1), (0, .ref (ρ 42)), (1, .int x1)]) hx hb d_Model_link_17 rfl hl (by decide) rfl (fun ls hl => ?_)
    refine lv_aload_n hx hb d_Model_link_18 rfl (lv_at hl 2 rfl) ?_
    refine g_getI C hP gl_DeskModel_137 rfl rfl d_Model_link_19 ?_
    refine lv_if_eq (tgt := 26) hx hb d_Model_link_22 (by decide) (fun hc22 => ?_) (fun hc22 => ?_)
    · replace hM := gi_t hc22 hM
      refine lv_iload_n hx hb d_Model_link_26 rfl (lv_at hl 1 rfl) ?_
      refine lv_iload_n hx hb d_Model_link_27 rfl (lv_at hl 0 rfl) ?_
      refine lv_icmp_eq (tgt := 46) hx hb d_Model_link_28 (by decide) (fun hc28 => ?_) (fun hc28 => ?_)
      · replace hM := gi_t hc28 hM
        exact t_Model_link_b46 C hM hR ls H locs (lv_sub hl [2, 3, 1, 0] rfl) hP hS
      · replace hM := gi_f hc28 hM
        refine lv_aload_n hx hb d_Model_link_31 rfl (lv_at hl 2 rfl) ?_
        refine g_getR (b := 51) C hP gl_DeskModel_41 rfl rfl rfl d_Model_link_32 ?_
        refine lv_sipush (v := (200 : Int32)) hx hb d_Model_link_35 (by decide) ?_
        refine lv_iload_n hx hb d_Model_link_38 rfl (lv_at hl 0 rfl) ?_
        refine lv_imul hx hb d_Model_link_39 ?_
        refine lv_iload_n hx hb d_Model_link_40 rfl (lv_at hl 1 rfl) ?_
        refine lv_iadd hx hb d_Model_link_41 ?_
        obtain ⟨hi42, hM⟩ := gc_some hM
        refine g_zald C hP rfl hi42 d_Model_link_42 ?_
        refine lv_if_eq (tgt := 56) hx hb d_Model_link_43 (by decide) (fun hc43 => ?_) (fun hc43 => ?_)
        · replace hM := gi_t hc43 hM
          exact t_Model_link_b56 C hM hR ls H locs (lv_sub hl [2, 3, 1, 0] rfl) hP hS
        · replace hM := gi_f hc43 hM
          exact t_Model_link_b46 C hM hR ls H locs (lv_sub hl [2, 3, 1, 0] rfl) hP hS
    · replace hM := gi_f hc22 hM
      obtain rfl := Option.some.inj hM
      exact hR _ ls H locs d_Model_link_25 hP hS
  · replace hM := gi_f hc9 hM
    obtain rfl := Option.some.inj hM
    exact hR _ ls H locs d_Model_link_12 hP hS
theorem c_Model_link {l : Launch} {cy : Nat → ClassId} {D : va_G} {ρ : Nat → Nat} {A : Nat → Prop} (hD : gD ρ A) {x1 : Int32} {u : gSt} {z : gSt} (hM : M_Model_link x1 u = some z) : gCtV l y_Model_link prog_13_method_35_code 7 none 4 88 cy D ρ A [.ref (ρ 42), .int x1] u z :=
  g_met (by decide) hD (Nat.le_of_ble_eq_true rfl) (fun p e s m below meth c ls X hl hP => t_Model_link X hM (fun pc ls H locs hd hP hS => g_vret X hP hS hd) ls _ [] hl hP va_S.rf)
end
section
variable {p : Program} {l : Launch} {e : Env} {R : Room} {s : State} {m : MethodId} {args : Array Value} {below : List Frame} {meth : Method} {c : Code} {Q : State → Prop} {H0 : Heap} {cells slots : Nat} {cy : Nat → ClassId} {D : va_G} {ρ : Nat → Nat} {A : Nat → Prop}
def y_Model_gene : MethodName := ⟨"TermDeskModel", "gene", "(I)V"⟩
theorem gi_Model_gene : gMi y_Model_gene prog_13_method_36_code 3 none 1 8 := ⟨(gWs_at 1237 (by decide +kernel) (by decide +kernel)), (gWs_at 1236 (by decide +kernel) (by decide +kernel)), (gWs_at 82 (by decide +kernel) (by decide +kernel)), (gWs_at 125 (by decide +kernel) (by decide +kernel)), ⟨by decide +kernel, by decide +kernel, by decide +kernel⟩, _, _, rfl⟩
theorem gm_Model_223 : gMk "TermDeskModel" 223 y_Model_gene := Or.inl (gWs_at 1234 (by decide +kernel) (by decide +kernel))
theorem d_Model_gene_0 : decode prog_13_method_36_code 0 = .ok (.aload_n 0, 1) := by decide +kernel
theorem d_Model_gene_1 : decode prog_13_method_36_code 1 = .ok (.invokevirtual 167, 3) := by decide +kernel
theorem d_Model_gene_4 : decode prog_13_method_36_code 4 = .ok (.ifCond .eq 10, 3) := by decide +kernel
theorem d_Model_gene_7 : decode prog_13_method_36_code 7 = .ok (.aload_n 0, 1) := by decide +kernel
theorem d_Model_gene_8 : decode prog_13_method_36_code 8 = .ok (.invokevirtual 171, 3) := by decide +kernel
theorem d_Model_gene_11 : decode prog_13_method_36_code 11 = .ok (.ifCond .ne 4, 3) := by decide +kernel
theorem d_Model_gene_14 : decode prog_13_method_36_code 14 = .ok (.return_, 1) := by decide +kernel
theorem d_Model_gene_15 : decode prog_13_method_36_code 15 = .ok (.aload_n 0, 1) := by decide +kernel
theorem d_Model_gene_16 : decode prog_13_method_36_code 16 = .ok (.invokevirtual 181, 3) := by decide +kernel
theorem d_Model_gene_19 : decode prog_13_method_36_code 19 = .ok (.iconst (-1), 1) := by decide +kernel
theorem d_Model_gene_20 : decode prog_13_method_36_code 20 = .ok (.if_icmp .eq 13, 3) := by decide +kernel
theorem d_Model_gene_23 : decode prog_13_method_36_code 23 = .ok (.aload_n 0, 1) := by decide +kernel
theorem d_Model_gene_24 : decode prog_13_method_36_code 24 = .ok (.iconst 4, 1) := by decide +kernel
theorem d_Model_gene_25 : decode prog_13_method_36_code 25 = .ok (.aload_n 0, 1) := by decide +kernel
theorem d_Model_gene_26 : decode prog_13_method_36_code 26 = .ok (.getfield 150, 3) := by decide +kernel
theorem d_Model_gene_29 : decode prog_13_method_36_code 29 = .ok (.invokevirtual 146, 3) := by decide +kernel
theorem d_Model_gene_32 : decode prog_13_method_36_code 32 = .ok (.pop, 1) := by decide +kernel
theorem d_Model_gene_33 : decode prog_13_method_36_code 33 = .ok (.aload_n 0, 1) := by decide +kernel
theorem d_Model_gene_34 : decode prog_13_method_36_code 34 = .ok (.iload_n 1, 1) := by decide +kernel
theorem d_Model_gene_35 : decode prog_13_method_36_code 35 = .ok (.aload_n 0, 1) := by decide +kernel
theorem d_Model_gene_36 : decode prog_13_method_36_code 36 = .ok (.getfield 164, 3) := by decide +kernel
theorem d_Model_gene_39 : decode prog_13_method_36_code 39 = .ok (.sipush 200, 3) := by decide +kernel
theorem d_Model_gene_42 : decode prog_13_method_36_code 42 = .ok (.if_icmp .ge 7, 3) := by decide +kernel
theorem d_Model_gene_45 : decode prog_13_method_36_code 45 = .ok (.iconst 1, 1) := by decide +kernel
theorem d_Model_gene_46 : decode prog_13_method_36_code 46 = .ok (.goto 4, 3) := by decide +kernel
theorem d_Model_gene_49 : decode prog_13_method_36_code 49 = .ok (.iconst 0, 1) := by decide +kernel
theorem d_Model_gene_50 : decode prog_13_method_36_code 50 = .ok (.invokevirtual 187, 3) := by decide +kernel
theorem d_Model_gene_53 : decode prog_13_method_36_code 53 = .ok (.ifCond .ne 4, 3) := by decide +kernel
theorem d_Model_gene_56 : decode prog_13_method_36_code 56 = .ok (.return_, 1) := by decide +kernel
theorem d_Model_gene_57 : decode prog_13_method_36_code 57 = .ok (.aload_n 0, 1) := by decide +kernel
theorem d_Model_gene_58 : decode prog_13_method_36_code 58 = .ok (.getfield 31, 3) := by decide +kernel
theorem d_Model_gene_61 : decode prog_13_method_36_code 61 = .ok (.aload_n 0, 1) := by decide +kernel
theorem d_Model_gene_62 : decode prog_13_method_36_code 62 = .ok (.getfield 164, 3) := by decide +kernel
theorem d_Model_gene_65 : decode prog_13_method_36_code 65 = .ok (.aload_n 0, 1) := by decide +kernel
theorem d_Model_gene_66 : decode prog_13_method_36_code 66 = .ok (.getfield 140, 3) := by decide +kernel
theorem d_Model_gene_69 : decode prog_13_method_36_code 69 = .ok (.aload_n 0, 1) := by decide +kernel
theorem d_Model_gene_70 : decode prog_13_method_36_code 70 = .ok (.getfield 150, 3) := by decide +kernel
theorem d_Model_gene_73 : decode prog_13_method_36_code 73 = .ok (.isub, 1) := by decide +kernel
theorem d_Model_gene_74 : decode prog_13_method_36_code 74 = .ok (.iastore, 1) := by decide +kernel
theorem d_Model_gene_75 : decode prog_13_method_36_code 75 = .ok (.aload_n 0, 1) := by decide +kernel
theorem d_Model_gene_76 : decode prog_13_method_36_code 76 = .ok (.getfield 150, 3) := by decide +kernel
theorem d_Model_gene_79 : decode prog_13_method_36_code 79 = .ok (.istore_n 2, 1) := by decide +kernel
theorem d_Model_gene_80 : decode prog_13_method_36_code 80 = .ok (.iload_n 2, 1) := by decide +kernel
theorem d_Model_gene_81 : decode prog_13_method_36_code 81 = .ok (.aload_n 0, 1) := by decide +kernel
theorem d_Model_gene_82 : decode prog_13_method_36_code 82 = .ok (.getfield 140, 3) := by decide +kernel
theorem d_Model_gene_85 : decode prog_13_method_36_code 85 = .ok (.if_icmp .ge 34, 3) := by decide +kernel
theorem d_Model_gene_88 : decode prog_13_method_36_code 88 = .ok (.aload_n 0, 1) := by decide +kernel
theorem d_Model_gene_89 : decode prog_13_method_36_code 89 = .ok (.getfield 28, 3) := by decide +kernel
theorem d_Model_gene_92 : decode prog_13_method_36_code 92 = .ok (.bipush 12, 2) := by decide +kernel
theorem d_Model_gene_94 : decode prog_13_method_36_code 94 = .ok (.aload_n 0, 1) := by decide +kernel
theorem d_Model_gene_95 : decode prog_13_method_36_code 95 = .ok (.getfield 164, 3) := by decide +kernel
theorem d_Model_gene_98 : decode prog_13_method_36_code 98 = .ok (.imul, 1) := by decide +kernel
theorem d_Model_gene_99 : decode prog_13_method_36_code 99 = .ok (.iload_n 2, 1) := by decide +kernel
theorem d_Model_gene_100 : decode prog_13_method_36_code 100 = .ok (.iadd, 1) := by decide +kernel
theorem d_Model_gene_101 : decode prog_13_method_36_code 101 = .ok (.aload_n 0, 1) := by decide +kernel
theorem d_Model_gene_102 : decode prog_13_method_36_code 102 = .ok (.getfield 150, 3) := by decide +kernel
theorem d_Model_gene_105 : decode prog_13_method_36_code 105 = .ok (.isub, 1) := by decide +kernel
theorem d_Model_gene_106 : decode prog_13_method_36_code 106 = .ok (.aload_n 0, 1) := by decide +kernel
theorem d_Model_gene_107 : decode prog_13_method_36_code 107 = .ok (.getfield 8, 3) := by decide +kernel
theorem d_Model_gene_110 : decode prog_13_method_36_code 110 = .ok (.iload_n 2, 1) := by decide +kernel
theorem d_Model_gene_111 : decode prog_13_method_36_code 111 = .ok (.baload, 1) := by decide +kernel
theorem d_Model_gene_112 : decode prog_13_method_36_code 112 = .ok (.bastore, 1) := by decide +kernel
theorem d_Model_gene_113 : decode prog_13_method_36_code 113 = .ok (.iinc 2 1, 3) := by decide +kernel
theorem d_Model_gene_116 : decode prog_13_method_36_code 116 = .ok (.goto (-36), 3) := by decide +kernel
theorem d_Model_gene_119 : decode prog_13_method_36_code 119 = .ok (.aload_n 0, 1) := by decide +kernel
theorem d_Model_gene_120 : decode prog_13_method_36_code 120 = .ok (.dup, 1) := by decide +kernel
theorem d_Model_gene_121 : decode prog_13_method_36_code 121 = .ok (.getfield 164, 3) := by decide +kernel
theorem d_Model_gene_124 : decode prog_13_method_36_code 124 = .ok (.iconst 1, 1) := by decide +kernel
theorem d_Model_gene_125 : decode prog_13_method_36_code 125 = .ok (.iadd, 1) := by decide +kernel
theorem d_Model_gene_126 : decode prog_13_method_36_code 126 = .ok (.putfield 164, 3) := by decide +kernel
theorem d_Model_gene_129 : decode prog_13_method_36_code 129 = .ok (.aload_n 0, 1) := by decide +kernel
theorem d_Model_gene_130 : decode prog_13_method_36_code 130 = .ok (.iconst 0, 1) := by decide +kernel
theorem d_Model_gene_131 : decode prog_13_method_36_code 131 = .ok (.putfield 200, 3) := by decide +kernel
theorem d_Model_gene_134 : decode prog_13_method_36_code 134 = .ok (.return_, 1) := by decide +kernel
noncomputable def M_Model_gene_b14 (u : gSt) : Option (gSt) :=
  some u
set_option maxHeartbeats 4000000 in
set_option maxRecDepth 100000 in
theorem t_Model_gene_b14 (C : gX "TermDeskModel" prog_13_method_36_code 3 none 2 46 R cells slots cy D ρ A p s m args meth c) {u : gSt} {z : gSt} (hM : M_Model_gene_b14 u = some z) (hR : gRtV p l e R s m args below meth c Q H0 cells slots cy D ρ A prog_13_method_36_code z) : gAt p l e R s m args below meth c Q H0 cells slots cy D ρ A 3 14 [] [] u := by
  intro ls H locs hl hP hS
  have hx := C.1
  have hb := C.2.1
  unfold M_Model_gene_b14 at hM
  obtain rfl := Option.some.inj hM
  exact hR _ ls H locs d_Model_gene_14 hP hS
noncomputable def M_Model_gene_b80 (x2 : Int32) (u : gSt) : Option ((Int32 × gSt) ⊕ ((gSt))) :=
  if (u.1 42 23) ≤ x2 then
    (some (.inr u))
  else
    (gc (gIn x2 (gLen 43)) <| gc (gIn ((((12 : Int32) * (u.1 42 10)) + x2) - (u.1 42 22)) (gLen 47)) <| (some (gsA u 47 (gIx ((((12 : Int32) * (u.1 42 10)) + x2) - (u.1 42 22))) ((u.2.2.1 43 (gIx x2)).toInt8.toInt32))).bind fun u112 =>
    some (.inl (x2 + (1 : Int32), u112)))
set_option maxHeartbeats 4000000 in
set_option maxRecDepth 100000 in
theorem t_Model_gene_b80 (C : gX "TermDeskModel" prog_13_method_36_code 3 none 2 46 R cells slots cy D ρ A p s m args meth c) {x2 : Int32} {u : gSt} {z : (Int32 × gSt) ⊕ ((gSt))} (hM : M_Model_gene_b80 x2 u = some z) (hN : ∀ x2' u', z = .inl (x2', u') → gAt p l e R s m args below meth c Q H0 cells slots cy D ρ A 3 80 [(0, .ref (ρ 42)), (2, .int (x2'))] [] (u')) (hE0 : ∀ u', z = .inr u' → gAt p l e R s m args below meth c Q H0 cells slots cy D ρ A 3 119 [(0, .ref (ρ 42))] [] (u')) : gAt p l e R s m args below meth c Q H0 cells slots cy D ρ A 3 80 [(0, .ref (ρ 42)), (2, .int x2)] [] u := by
  intro ls H locs hl hP hS
  have hx := C.1
  have hb := C.2.1
  unfold M_Model_gene_b80 at hM
  refine lv_iload_n hx hb d_Model_gene_80 rfl (lv_at hl 1 rfl) ?_
  refine lv_aload_n hx hb d_Model_gene_81 rfl (lv_at hl 0 rfl) ?_
  refine g_getI C hP gl_DeskModel_140 rfl rfl d_Model_gene_82 ?_
  refine lv_icmp_ge (tgt := 119) hx hb d_Model_gene_85 (by decide) (fun hc85 => ?_) (fun hc85 => ?_)
  · replace hM := gi_t hc85 hM
    exact hE0 _ (Option.some.inj hM).symm ls H locs (lv_sub hl [0] rfl) hP hS
  · replace hM := gi_f hc85 hM
    refine lv_aload_n hx hb d_Model_gene_88 rfl (lv_at hl 0 rfl) ?_
    refine g_getR (b := 47) C hP gl_DeskModel_28 rfl rfl rfl d_Model_gene_89 ?_
    refine lv_bipush (v := (12 : Int32)) hx hb d_Model_gene_92 (by decide) ?_
    refine lv_aload_n hx hb d_Model_gene_94 rfl (lv_at hl 0 rfl) ?_
    refine g_getI C hP gl_DeskModel_164 rfl rfl d_Model_gene_95 ?_
    refine lv_imul hx hb d_Model_gene_98 ?_
    refine lv_iload_n hx hb d_Model_gene_99 rfl (lv_at hl 1 rfl) ?_
    refine lv_iadd hx hb d_Model_gene_100 ?_
    refine lv_aload_n hx hb d_Model_gene_101 rfl (lv_at hl 0 rfl) ?_
    refine g_getI C hP gl_DeskModel_150 rfl rfl d_Model_gene_102 ?_
    refine lv_isub hx hb d_Model_gene_105 ?_
    refine lv_aload_n hx hb d_Model_gene_106 rfl (lv_at hl 0 rfl) ?_
    refine g_getR (b := 43) C hP gl_DeskModel_8 rfl rfl rfl d_Model_gene_107 ?_
    refine lv_iload_n hx hb d_Model_gene_110 rfl (lv_at hl 1 rfl) ?_
    obtain ⟨hi111, hM⟩ := gc_some hM
    refine g_bald C hP rfl hi111 d_Model_gene_111 ?_
    obtain ⟨hi112, hM⟩ := gc_some hM
    obtain ⟨u112, e112, hM⟩ := gb_some hM
    refine g_bast C hP hS rfl hi112 d_Model_gene_112 (fun H locs hP hS => ?_)
    rw [Option.some.inj e112] at hP
    refine lv_iinc (k := 1) (v := x2 + (1 : Int32)) (lv' := [(2, .int (x2 + (1 : Int32))), (0, .ref (ρ 42))]) hx hb d_Model_gene_113 hl rfl (congrArg (fun z => x2 + z) (by decide)) (by decide) rfl (fun ls hl => ?_)
    refine lv_goto (tgt := 80) hx hb d_Model_gene_116 (by decide) ?_
    exact hN _ _ (Option.some.inj hM).symm ls H locs (lv_sub hl [1, 0] rfl) hP hS
noncomputable def M_Model_gene_L80 : (Int32 × gSt) → Option ((Int32 × gSt) ⊕ ((gSt))) := fun x => M_Model_gene_b80 x.1 x.2
theorem t_Model_gene_L80 (C : gX "TermDeskModel" prog_13_method_36_code 3 none 2 46 R cells slots cy D ρ A p s m args meth c) {x2 : Int32} {u : gSt} {yy : (gSt)} (hL : gLp M_Model_gene_L80 (x2, u) = some yy) (hE0 : (∀ y', yy = y' → gAt p l e R s m args below meth c Q H0 cells slots cy D ρ A 3 119 [(0, .ref (ρ 42))] [] (y'))) : gAt p l e R s m args below meth c Q H0 cells slots cy D ρ A 3 80 [(0, .ref (ρ 42)), (2, .int x2)] [] u :=
  g_loop (f := M_Model_gene_L80) (P := fun x => gAt p l e R s m args below meth c Q H0 cells slots cy D ρ A 3 80 [(0, .ref (ρ 42)), (2, .int x.1)] [] x.2) (E := fun yy => (∀ y', yy = y' → gAt p l e R s m args below meth c Q H0 cells slots cy D ρ A 3 119 [(0, .ref (ρ 42))] [] (y'))) (fun x z hf hN hE => t_Model_gene_b80 C hf (fun x2' u' h => hN (x2', u') h) (fun u' h => (hE _ h) u' rfl)) hL hE0
noncomputable def M_Model_gene_b50 (s0 : Int32) (s1 : Int32) (u : gSt) : Option (gSt) :=
  (M_Model_ends s1 s0 u).bind fun q50 =>
  if q50.1 = (0 : Int32) then
    (some q50.2)
  else
    (gc (gIn (q50.2.1 42 10) (gLen 48)) <| (some (gsA q50.2 48 (gIx (q50.2.1 42 10)) ((q50.2.1 42 23) - (q50.2.1 42 22)))).bind fun u74 =>
    (gLp M_Model_gene_L80 (u74.1 42 22, u74)).bind fun y80 =>
    (some (gsF y80 42 10 ((y80.1 42 10) + (1 : Int32)))).bind fun u126 =>
    (some (gsF u126 42 17 (0 : Int32))).bind fun u131 =>
    some u131)
set_option maxHeartbeats 4000000 in
set_option maxRecDepth 100000 in
theorem t_Model_gene_b50 (C : gX "TermDeskModel" prog_13_method_36_code 3 none 2 46 R cells slots cy D ρ A p s m args meth c) {s0 : Int32} {s1 : Int32} {u : gSt} {z : gSt} (hM : M_Model_gene_b50 s0 s1 u = some z) (hR : gRtV p l e R s m args below meth c Q H0 cells slots cy D ρ A prog_13_method_36_code z) : gAt p l e R s m args below meth c Q H0 cells slots cy D ρ A 3 50 [(0, .ref (ρ 42))] [.int s0, .int s1, .ref (ρ 42)] u := by
  intro ls H locs hl hP hS
  have hx := C.1
  have hb := C.2.1
  unfold M_Model_gene_b50 at hM
  obtain ⟨q50, hq50, hM⟩ := gb_some hM
  refine g_backI (g_runV (As := [.int s1, .int s0]) C hP (c_Model_ends C.2.2.2.2.2.2.2.2.1 hq50) gi_Model_ends gm_Model_187 rfl rfl (by decide) (by decide) hl.1 rfl (Nat.le_of_ble_eq_true rfl) d_Model_gene_50) hS (fun H locs hP hS => ?_)
  refine lv_if_ne (tgt := 57) hx hb d_Model_gene_53 (by decide) (fun hc53 => ?_) (fun hc53 => ?_)
  · replace hM := gi_f hc53 hM
    refine lv_aload_n hx hb d_Model_gene_57 rfl (lv_at hl 0 rfl) ?_
    refine g_getR (b := 48) C hP gl_DeskModel_31 rfl rfl rfl d_Model_gene_58 ?_
    refine lv_aload_n hx hb d_Model_gene_61 rfl (lv_at hl 0 rfl) ?_
    refine g_getI C hP gl_DeskModel_164 rfl rfl d_Model_gene_62 ?_
    refine lv_aload_n hx hb d_Model_gene_65 rfl (lv_at hl 0 rfl) ?_
    refine g_getI C hP gl_DeskModel_140 rfl rfl d_Model_gene_66 ?_
    refine lv_aload_n hx hb d_Model_gene_69 rfl (lv_at hl 0 rfl) ?_
    refine g_getI C hP gl_DeskModel_150 rfl rfl d_Model_gene_70 ?_
    refine lv_isub hx hb d_Model_gene_73 ?_
    obtain ⟨hi74, hM⟩ := gc_some hM
    obtain ⟨u74, e74, hM⟩ := gb_some hM
    refine g_iast C hP hS rfl hi74 d_Model_gene_74 (fun H locs hP hS => ?_)
    rw [Option.some.inj e74] at hP
    refine lv_aload_n hx hb d_Model_gene_75 rfl (lv_at hl 0 rfl) ?_
    refine g_getI C hP gl_DeskModel_150 rfl rfl d_Model_gene_76 ?_
    refine lv_istore_n (lv' := [(2, .int (u74.1 42 22)), (0, .ref (ρ 42))]) hx hb d_Model_gene_79 rfl hl (by decide) rfl (fun ls hl => ?_)
    obtain ⟨y80, hL80, hM⟩ := gb_some hM
    refine t_Model_gene_L80 C hL80 (fun y80_0 hy => ?_) ls H locs (lv_sub hl [1, 0] rfl) hP hS
    · subst hy
      intro ls H locs hl hP hS
      refine lv_aload_n hx hb d_Model_gene_119 rfl (lv_at hl 0 rfl) ?_
      refine lv_dup hx hb d_Model_gene_120 rfl ?_
      refine g_getI C hP gl_DeskModel_164 rfl rfl d_Model_gene_121 ?_
      refine lv_iconst (v := (1 : Int32)) hx hb d_Model_gene_124 (by decide) ?_
      refine lv_iadd hx hb d_Model_gene_125 ?_
      obtain ⟨u126, e126, hM⟩ := gb_some hM
      refine g_putI C hP hS gl_DeskModel_164 rfl rfl gq_8_10 d_Model_gene_126 (fun H locs hP hS => ?_)
      rw [Option.some.inj e126] at hP
      refine lv_aload_n hx hb d_Model_gene_129 rfl (lv_at hl 0 rfl) ?_
      refine lv_iconst (v := (0 : Int32)) hx hb d_Model_gene_130 (by decide) ?_
      obtain ⟨u131, e131, hM⟩ := gb_some hM
      refine g_putZ C hP hS gl_DeskModel_200 rfl rfl gq_8_17 rfl d_Model_gene_131 (fun H locs hP hS => ?_)
      rw [Option.some.inj e131] at hP
      obtain rfl := Option.some.inj hM
      exact hR _ ls H locs d_Model_gene_134 hP hS
  · replace hM := gi_t hc53 hM
    obtain rfl := Option.some.inj hM
    exact hR _ ls H locs d_Model_gene_56 hP hS
noncomputable def M_Model_gene_b33 (x1 : Int32) (u : gSt) : Option (gSt) :=
  if (200 : Int32) ≤ (u.1 42 10) then
    (M_Model_gene_b50 (0 : Int32) x1 u)
  else
    (M_Model_gene_b50 (1 : Int32) x1 u)
set_option maxHeartbeats 4000000 in
set_option maxRecDepth 100000 in
theorem t_Model_gene_b33 (C : gX "TermDeskModel" prog_13_method_36_code 3 none 2 46 R cells slots cy D ρ A p s m args meth c) {x1 : Int32} {u : gSt} {z : gSt} (hM : M_Model_gene_b33 x1 u = some z) (hR : gRtV p l e R s m args below meth c Q H0 cells slots cy D ρ A prog_13_method_36_code z) : gAt p l e R s m args below meth c Q H0 cells slots cy D ρ A 3 33 [(0, .ref (ρ 42)), (1, .int x1)] [] u := by
  intro ls H locs hl hP hS
  have hx := C.1
  have hb := C.2.1
  unfold M_Model_gene_b33 at hM
  refine lv_aload_n hx hb d_Model_gene_33 rfl (lv_at hl 0 rfl) ?_
  refine lv_iload_n hx hb d_Model_gene_34 rfl (lv_at hl 1 rfl) ?_
  refine lv_aload_n hx hb d_Model_gene_35 rfl (lv_at hl 0 rfl) ?_
  refine g_getI C hP gl_DeskModel_164 rfl rfl d_Model_gene_36 ?_
  refine lv_sipush (v := (200 : Int32)) hx hb d_Model_gene_39 (by decide) ?_
  refine lv_icmp_ge (tgt := 49) hx hb d_Model_gene_42 (by decide) (fun hc42 => ?_) (fun hc42 => ?_)
  · replace hM := gi_t hc42 hM
    refine lv_iconst (v := (0 : Int32)) hx hb d_Model_gene_49 (by decide) ?_
    exact t_Model_gene_b50 C hM hR ls H locs (lv_sub hl [0] rfl) hP hS
  · replace hM := gi_f hc42 hM
    refine lv_iconst (v := (1 : Int32)) hx hb d_Model_gene_45 (by decide) ?_
    refine lv_goto (tgt := 50) hx hb d_Model_gene_46 (by decide) ?_
    exact t_Model_gene_b50 C hM hR ls H locs (lv_sub hl [0] rfl) hP hS
noncomputable def M_Model_gene (x1 : Int32) (u : gSt) : Option (gSt) :=
  (M_Model_next u).bind fun q1 =>
  if q1.1 = (0 : Int32) then
    (M_Model_gene_b14 q1.2)
  else
    ((M_Model_isName q1.2).bind fun q8 =>
    if q8.1 = (0 : Int32) then
      (M_Model_gene_b14 q8.2)
    else
      ((M_Model_geneOf q8.2).bind fun q16 =>
      if q16.1 = (-1 : Int32) then
        (M_Model_gene_b33 x1 q16.2)
      else
        ((M_Model_stop (4 : Int32) (q16.2.1 42 22) q16.2).bind fun q29 =>
        M_Model_gene_b33 x1 q29.2)))
set_option maxHeartbeats 4000000 in
set_option maxRecDepth 100000 in
theorem t_Model_gene (C : gX "TermDeskModel" prog_13_method_36_code 3 none 2 46 R cells slots cy D ρ A p s m args meth c) {x1 : Int32} {u : gSt} {z : gSt} (hM : M_Model_gene x1 u = some z) (hR : gRtV p l e R s m args below meth c Q H0 cells slots cy D ρ A prog_13_method_36_code z) : gAt p l e R s m args below meth c Q H0 cells slots cy D ρ A 3 0 [(0, .ref (ρ 42)), (1, .int x1)] [] u := by
  intro ls H locs hl hP hS
  have hx := C.1
  have hb := C.2.1
  unfold M_Model_gene at hM
  refine lv_aload_n hx hb d_Model_gene_0 rfl (lv_at hl 0 rfl) ?_
  obtain ⟨q1, hq1, hM⟩ := gb_some hM
  refine g_backI (g_runV (As := []) C hP (c_Model_next C.2.2.2.2.2.2.2.2.1 hq1) gi_Model_next gm_Model_167 rfl rfl (by decide) (by decide) hl.1 rfl (Nat.le_of_ble_eq_true rfl) d_Model_gene_1) hS (fun H locs hP hS => ?_)
  refine lv_if_eq (tgt := 14) hx hb d_Model_gene_4 (by decide) (fun hc4 => ?_) (fun hc4 => ?_)
  · replace hM := gi_t hc4 hM
    exact t_Model_gene_b14 C hM hR ls H locs (lv_sub hl [] rfl) hP hS
  · replace hM := gi_f hc4 hM
    refine lv_aload_n hx hb d_Model_gene_7 rfl (lv_at hl 0 rfl) ?_
    obtain ⟨q8, hq8, hM⟩ := gb_some hM
    refine g_backI (g_runV (As := []) C hP (c_Model_isName C.2.2.2.2.2.2.2.2.1 hq8) gi_Model_isName gm_Model_171 rfl rfl (by decide) (by decide) hl.1 rfl (Nat.le_of_ble_eq_true rfl) d_Model_gene_8) hS (fun H locs hP hS => ?_)
    refine lv_if_ne (tgt := 15) hx hb d_Model_gene_11 (by decide) (fun hc11 => ?_) (fun hc11 => ?_)
    · replace hM := gi_f hc11 hM
      refine lv_aload_n hx hb d_Model_gene_15 rfl (lv_at hl 0 rfl) ?_
      obtain ⟨q16, hq16, hM⟩ := gb_some hM
      refine g_backI (g_runV (As := []) C hP (c_Model_geneOf C.2.2.2.2.2.2.2.2.1 hq16) gi_Model_geneOf gm_Model_181 rfl rfl (by decide) (by decide) hl.1 rfl (Nat.le_of_ble_eq_true rfl) d_Model_gene_16) hS (fun H locs hP hS => ?_)
      refine lv_iconst (v := (-1 : Int32)) hx hb d_Model_gene_19 (by decide) ?_
      refine lv_icmp_eq (tgt := 33) hx hb d_Model_gene_20 (by decide) (fun hc20 => ?_) (fun hc20 => ?_)
      · replace hM := gi_t hc20 hM
        exact t_Model_gene_b33 C hM hR ls H locs (lv_sub hl [0, 1] rfl) hP hS
      · replace hM := gi_f hc20 hM
        refine lv_aload_n hx hb d_Model_gene_23 rfl (lv_at hl 0 rfl) ?_
        refine lv_iconst (v := (4 : Int32)) hx hb d_Model_gene_24 (by decide) ?_
        refine lv_aload_n hx hb d_Model_gene_25 rfl (lv_at hl 0 rfl) ?_
        refine g_getI C hP gl_DeskModel_150 rfl rfl d_Model_gene_26 ?_
        obtain ⟨q29, hq29, hM⟩ := gb_some hM
        refine g_backI (g_runV (As := [.int (4 : Int32), .int (q16.2.1 42 22)]) C hP (c_Model_stop C.2.2.2.2.2.2.2.2.1 hq29) gi_Model_stop gm_Model_146 rfl rfl (by decide) (by decide) hl.1 rfl (Nat.le_of_ble_eq_true rfl) d_Model_gene_29) hS (fun H locs hP hS => ?_)
        refine lv_pop hx hb d_Model_gene_32 rfl ?_
        exact t_Model_gene_b33 C hM hR ls H locs (lv_sub hl [0, 1] rfl) hP hS
    · replace hM := gi_t hc11 hM
      exact t_Model_gene_b14 C hM hR ls H locs (lv_sub hl [] rfl) hP hS
theorem c_Model_gene {l : Launch} {cy : Nat → ClassId} {D : va_G} {ρ : Nat → Nat} {A : Nat → Prop} (hD : gD ρ A) {x1 : Int32} {u : gSt} {z : gSt} (hM : M_Model_gene x1 u = some z) : gCtV l y_Model_gene prog_13_method_36_code 3 none 2 46 cy D ρ A [.ref (ρ 42), .int x1] u z :=
  g_met (by decide) hD (Nat.le_of_ble_eq_true rfl) (fun p e s m below meth c ls X hl hP => t_Model_gene X hM (fun pc ls H locs hd hP hS => g_vret X hP hS hd) ls _ [] hl hP va_S.rf)
end
section
variable {p : Program} {l : Launch} {e : Env} {R : Room} {s : State} {m : MethodId} {args : Array Value} {below : List Frame} {meth : Method} {c : Code} {Q : State → Prop} {H0 : Heap} {cells slots : Nat} {cy : Nat → ClassId} {D : va_G} {ρ : Nat → Nat} {A : Nat → Prop}
def y_Model_note : MethodName := ⟨"TermDeskModel", "note", "(IZ)V"⟩
theorem gi_Model_note : gMi y_Model_note prog_13_method_37_code 6 none 2 8 := ⟨(gWs_at 1245 (by decide +kernel) (by decide +kernel)), (gWs_at 1244 (by decide +kernel) (by decide +kernel)), (gWs_at 84 (by decide +kernel) (by decide +kernel)), (gWs_at 125 (by decide +kernel) (by decide +kernel)), ⟨by decide +kernel, by decide +kernel, by decide +kernel⟩, _, _, rfl⟩
theorem gm_Model_226 : gMk "TermDeskModel" 226 y_Model_note := Or.inl (gWs_at 1242 (by decide +kernel) (by decide +kernel))
theorem d_Model_note_0 : decode prog_13_method_37_code 0 = .ok (.aload_n 0, 1) := by decide +kernel
theorem d_Model_note_1 : decode prog_13_method_37_code 1 = .ok (.invokevirtual 204, 3) := by decide +kernel
theorem d_Model_note_4 : decode prog_13_method_37_code 4 = .ok (.istore_n 3, 1) := by decide +kernel
theorem d_Model_note_5 : decode prog_13_method_37_code 5 = .ok (.aload_n 0, 1) := by decide +kernel
theorem d_Model_note_6 : decode prog_13_method_37_code 6 = .ok (.getfield 137, 3) := by decide +kernel
theorem d_Model_note_9 : decode prog_13_method_37_code 9 = .ok (.ifCond .eq 4, 3) := by decide +kernel
theorem d_Model_note_12 : decode prog_13_method_37_code 12 = .ok (.return_, 1) := by decide +kernel
theorem d_Model_note_13 : decode prog_13_method_37_code 13 = .ok (.aload_n 0, 1) := by decide +kernel
theorem d_Model_note_14 : decode prog_13_method_37_code 14 = .ok (.invokevirtual 194, 3) := by decide +kernel
theorem d_Model_note_17 : decode prog_13_method_37_code 17 = .ok (.istore 4, 2) := by decide +kernel
theorem d_Model_note_19 : decode prog_13_method_37_code 19 = .ok (.aload_n 0, 1) := by decide +kernel
theorem d_Model_note_20 : decode prog_13_method_37_code 20 = .ok (.getfield 137, 3) := by decide +kernel
theorem d_Model_note_23 : decode prog_13_method_37_code 23 = .ok (.ifCond .eq 4, 3) := by decide +kernel
theorem d_Model_note_26 : decode prog_13_method_37_code 26 = .ok (.return_, 1) := by decide +kernel
theorem d_Model_note_27 : decode prog_13_method_37_code 27 = .ok (.iload_n 2, 1) := by decide +kernel
theorem d_Model_note_28 : decode prog_13_method_37_code 28 = .ok (.ifCond .eq 19, 3) := by decide +kernel
theorem d_Model_note_31 : decode prog_13_method_37_code 31 = .ok (.aload_n 0, 1) := by decide +kernel
theorem d_Model_note_32 : decode prog_13_method_37_code 32 = .ok (.getfield 44, 3) := by decide +kernel
theorem d_Model_note_35 : decode prog_13_method_37_code 35 = .ok (.sipush 200, 3) := by decide +kernel
theorem d_Model_note_38 : decode prog_13_method_37_code 38 = .ok (.iload_n 3, 1) := by decide +kernel
theorem d_Model_note_39 : decode prog_13_method_37_code 39 = .ok (.imul, 1) := by decide +kernel
theorem d_Model_note_40 : decode prog_13_method_37_code 40 = .ok (.iload 4, 2) := by decide +kernel
theorem d_Model_note_42 : decode prog_13_method_37_code 42 = .ok (.iadd, 1) := by decide +kernel
theorem d_Model_note_43 : decode prog_13_method_37_code 43 = .ok (.baload, 1) := by decide +kernel
theorem d_Model_note_44 : decode prog_13_method_37_code 44 = .ok (.ifCond .eq 7, 3) := by decide +kernel
theorem d_Model_note_47 : decode prog_13_method_37_code 47 = .ok (.iconst 1, 1) := by decide +kernel
theorem d_Model_note_48 : decode prog_13_method_37_code 48 = .ok (.goto 4, 3) := by decide +kernel
theorem d_Model_note_51 : decode prog_13_method_37_code 51 = .ok (.iconst 0, 1) := by decide +kernel
theorem d_Model_note_52 : decode prog_13_method_37_code 52 = .ok (.istore 5, 2) := by decide +kernel
theorem d_Model_note_54 : decode prog_13_method_37_code 54 = .ok (.aload_n 0, 1) := by decide +kernel
theorem d_Model_note_55 : decode prog_13_method_37_code 55 = .ok (.iload_n 1, 1) := by decide +kernel
theorem d_Model_note_56 : decode prog_13_method_37_code 56 = .ok (.iload 5, 2) := by decide +kernel
theorem d_Model_note_58 : decode prog_13_method_37_code 58 = .ok (.ifCond .ne 13, 3) := by decide +kernel
theorem d_Model_note_61 : decode prog_13_method_37_code 61 = .ok (.aload_n 0, 1) := by decide +kernel
theorem d_Model_note_62 : decode prog_13_method_37_code 62 = .ok (.getfield 207, 3) := by decide +kernel
theorem d_Model_note_65 : decode prog_13_method_37_code 65 = .ok (.sipush 2000, 3) := by decide +kernel
theorem d_Model_note_68 : decode prog_13_method_37_code 68 = .ok (.if_icmp .ge 7, 3) := by decide +kernel
theorem d_Model_note_71 : decode prog_13_method_37_code 71 = .ok (.iconst 1, 1) := by decide +kernel
theorem d_Model_note_72 : decode prog_13_method_37_code 72 = .ok (.goto 4, 3) := by decide +kernel
theorem d_Model_note_75 : decode prog_13_method_37_code 75 = .ok (.iconst 0, 1) := by decide +kernel
theorem d_Model_note_76 : decode prog_13_method_37_code 76 = .ok (.invokevirtual 187, 3) := by decide +kernel
theorem d_Model_note_79 : decode prog_13_method_37_code 79 = .ok (.ifCond .eq 8, 3) := by decide +kernel
theorem d_Model_note_82 : decode prog_13_method_37_code 82 = .ok (.iload 5, 2) := by decide +kernel
theorem d_Model_note_84 : decode prog_13_method_37_code 84 = .ok (.ifCond .eq 4, 3) := by decide +kernel
theorem d_Model_note_87 : decode prog_13_method_37_code 87 = .ok (.return_, 1) := by decide +kernel
theorem d_Model_note_88 : decode prog_13_method_37_code 88 = .ok (.aload_n 0, 1) := by decide +kernel
theorem d_Model_note_89 : decode prog_13_method_37_code 89 = .ok (.getfield 44, 3) := by decide +kernel
theorem d_Model_note_92 : decode prog_13_method_37_code 92 = .ok (.sipush 200, 3) := by decide +kernel
theorem d_Model_note_95 : decode prog_13_method_37_code 95 = .ok (.iload_n 3, 1) := by decide +kernel
theorem d_Model_note_96 : decode prog_13_method_37_code 96 = .ok (.imul, 1) := by decide +kernel
theorem d_Model_note_97 : decode prog_13_method_37_code 97 = .ok (.iload 4, 2) := by decide +kernel
theorem d_Model_note_99 : decode prog_13_method_37_code 99 = .ok (.iadd, 1) := by decide +kernel
theorem d_Model_note_100 : decode prog_13_method_37_code 100 = .ok (.iconst 1, 1) := by decide +kernel
theorem d_Model_note_101 : decode prog_13_method_37_code 101 = .ok (.bastore, 1) := by decide +kernel
theorem d_Model_note_102 : decode prog_13_method_37_code 102 = .ok (.aload_n 0, 1) := by decide +kernel
theorem d_Model_note_103 : decode prog_13_method_37_code 103 = .ok (.dup, 1) := by decide +kernel
theorem d_Model_note_104 : decode prog_13_method_37_code 104 = .ok (.getfield 207, 3) := by decide +kernel
theorem d_Model_note_107 : decode prog_13_method_37_code 107 = .ok (.iconst 1, 1) := by decide +kernel
theorem d_Model_note_108 : decode prog_13_method_37_code 108 = .ok (.iadd, 1) := by decide +kernel
theorem d_Model_note_109 : decode prog_13_method_37_code 109 = .ok (.putfield 207, 3) := by decide +kernel
theorem d_Model_note_112 : decode prog_13_method_37_code 112 = .ok (.aload_n 0, 1) := by decide +kernel
theorem d_Model_note_113 : decode prog_13_method_37_code 113 = .ok (.iconst 0, 1) := by decide +kernel
theorem d_Model_note_114 : decode prog_13_method_37_code 114 = .ok (.putfield 200, 3) := by decide +kernel
theorem d_Model_note_117 : decode prog_13_method_37_code 117 = .ok (.return_, 1) := by decide +kernel
noncomputable def M_Model_note_b87 (u : gSt) : Option (gSt) :=
  some u
set_option maxHeartbeats 4000000 in
set_option maxRecDepth 100000 in
theorem t_Model_note_b87 (C : gX "TermDeskModel" prog_13_method_37_code 6 none 4 88 R cells slots cy D ρ A p s m args meth c) {u : gSt} {z : gSt} (hM : M_Model_note_b87 u = some z) (hR : gRtV p l e R s m args below meth c Q H0 cells slots cy D ρ A prog_13_method_37_code z) : gAt p l e R s m args below meth c Q H0 cells slots cy D ρ A 6 87 [] [] u := by
  intro ls H locs hl hP hS
  have hx := C.1
  have hb := C.2.1
  unfold M_Model_note_b87 at hM
  obtain rfl := Option.some.inj hM
  exact hR _ ls H locs d_Model_note_87 hP hS
noncomputable def M_Model_note_b76 (x3 : Int32) (x4 : Int32) (x5 : Int32) (s0 : Int32) (s1 : Int32) (u : gSt) : Option (gSt) :=
  (M_Model_ends s1 s0 u).bind fun q76 =>
  if q76.1 = (0 : Int32) then
    (M_Model_note_b87 q76.2)
  else
    (if x5 = (0 : Int32) then
      (gc (gIn (((200 : Int32) * x3) + x4) (gLen 52)) <| (some (gsA q76.2 52 (gIx (((200 : Int32) * x3) + x4)) (1 : Int32))).bind fun u101 =>
      (some (gsF u101 42 19 ((u101.1 42 19) + (1 : Int32)))).bind fun u109 =>
      (some (gsF u109 42 17 (0 : Int32))).bind fun u114 =>
      some u114)
    else
      (M_Model_note_b87 q76.2))
set_option maxHeartbeats 4000000 in
set_option maxRecDepth 100000 in
theorem t_Model_note_b76 (C : gX "TermDeskModel" prog_13_method_37_code 6 none 4 88 R cells slots cy D ρ A p s m args meth c) {x3 : Int32} {x4 : Int32} {x5 : Int32} {s0 : Int32} {s1 : Int32} {u : gSt} {z : gSt} (hM : M_Model_note_b76 x3 x4 x5 s0 s1 u = some z) (hR : gRtV p l e R s m args below meth c Q H0 cells slots cy D ρ A prog_13_method_37_code z) : gAt p l e R s m args below meth c Q H0 cells slots cy D ρ A 6 76 [(0, .ref (ρ 42)), (3, .int x3), (4, .int x4), (5, .int x5)] [.int s0, .int s1, .ref (ρ 42)] u := by
  intro ls H locs hl hP hS
  have hx := C.1
  have hb := C.2.1
  unfold M_Model_note_b76 at hM
  obtain ⟨q76, hq76, hM⟩ := gb_some hM
  refine g_backI (g_runV (As := [.int s1, .int s0]) C hP (c_Model_ends C.2.2.2.2.2.2.2.2.1 hq76) gi_Model_ends gm_Model_187 rfl rfl (by decide) (by decide) hl.1 rfl (Nat.le_of_ble_eq_true rfl) d_Model_note_76) hS (fun H locs hP hS => ?_)
  refine lv_if_eq (tgt := 87) hx hb d_Model_note_79 (by decide) (fun hc79 => ?_) (fun hc79 => ?_)
  · replace hM := gi_t hc79 hM
    exact t_Model_note_b87 C hM hR ls H locs (lv_sub hl [] rfl) hP hS
  · replace hM := gi_f hc79 hM
    refine lv_iload hx hb d_Model_note_82 (lv_at hl 3 rfl) ?_
    refine lv_if_eq (tgt := 88) hx hb d_Model_note_84 (by decide) (fun hc84 => ?_) (fun hc84 => ?_)
    · replace hM := gi_t hc84 hM
      refine lv_aload_n hx hb d_Model_note_88 rfl (lv_at hl 0 rfl) ?_
      refine g_getR (b := 52) C hP gl_DeskModel_44 rfl rfl rfl d_Model_note_89 ?_
      refine lv_sipush (v := (200 : Int32)) hx hb d_Model_note_92 (by decide) ?_
      refine lv_iload_n hx hb d_Model_note_95 rfl (lv_at hl 1 rfl) ?_
      refine lv_imul hx hb d_Model_note_96 ?_
      refine lv_iload hx hb d_Model_note_97 (lv_at hl 2 rfl) ?_
      refine lv_iadd hx hb d_Model_note_99 ?_
      refine lv_iconst (v := (1 : Int32)) hx hb d_Model_note_100 (by decide) ?_
      obtain ⟨hi101, hM⟩ := gc_some hM
      obtain ⟨u101, e101, hM⟩ := gb_some hM
      refine g_zast C hP hS rfl hi101 rfl d_Model_note_101 (fun H locs hP hS => ?_)
      rw [Option.some.inj e101] at hP
      refine lv_aload_n hx hb d_Model_note_102 rfl (lv_at hl 0 rfl) ?_
      refine lv_dup hx hb d_Model_note_103 rfl ?_
      refine g_getI C hP gl_DeskModel_207 rfl rfl d_Model_note_104 ?_
      refine lv_iconst (v := (1 : Int32)) hx hb d_Model_note_107 (by decide) ?_
      refine lv_iadd hx hb d_Model_note_108 ?_
      obtain ⟨u109, e109, hM⟩ := gb_some hM
      refine g_putI C hP hS gl_DeskModel_207 rfl rfl gq_8_19 d_Model_note_109 (fun H locs hP hS => ?_)
      rw [Option.some.inj e109] at hP
      refine lv_aload_n hx hb d_Model_note_112 rfl (lv_at hl 0 rfl) ?_
      refine lv_iconst (v := (0 : Int32)) hx hb d_Model_note_113 (by decide) ?_
      obtain ⟨u114, e114, hM⟩ := gb_some hM
      refine g_putZ C hP hS gl_DeskModel_200 rfl rfl gq_8_17 rfl d_Model_note_114 (fun H locs hP hS => ?_)
      rw [Option.some.inj e114] at hP
      obtain rfl := Option.some.inj hM
      exact hR _ ls H locs d_Model_note_117 hP hS
    · replace hM := gi_f hc84 hM
      exact t_Model_note_b87 C hM hR ls H locs (lv_sub hl [] rfl) hP hS
noncomputable def M_Model_note_b71 (x3 : Int32) (x4 : Int32) (x5 : Int32) (s0 : Int32) (u : gSt) : Option (gSt) :=
  M_Model_note_b76 x3 x4 x5 (1 : Int32) s0 u
set_option maxHeartbeats 4000000 in
set_option maxRecDepth 100000 in
theorem t_Model_note_b71 (C : gX "TermDeskModel" prog_13_method_37_code 6 none 4 88 R cells slots cy D ρ A p s m args meth c) {x3 : Int32} {x4 : Int32} {x5 : Int32} {s0 : Int32} {u : gSt} {z : gSt} (hM : M_Model_note_b71 x3 x4 x5 s0 u = some z) (hR : gRtV p l e R s m args below meth c Q H0 cells slots cy D ρ A prog_13_method_37_code z) : gAt p l e R s m args below meth c Q H0 cells slots cy D ρ A 6 71 [(0, .ref (ρ 42)), (3, .int x3), (4, .int x4), (5, .int x5)] [.int s0, .ref (ρ 42)] u := by
  intro ls H locs hl hP hS
  have hx := C.1
  have hb := C.2.1
  unfold M_Model_note_b71 at hM
  refine lv_iconst (v := (1 : Int32)) hx hb d_Model_note_71 (by decide) ?_
  refine lv_goto (tgt := 76) hx hb d_Model_note_72 (by decide) ?_
  exact t_Model_note_b76 C hM hR ls H locs (lv_sub hl [0, 1, 2, 3] rfl) hP hS
noncomputable def M_Model_note_b52 (x1 : Int32) (x3 : Int32) (x4 : Int32) (s0 : Int32) (u : gSt) : Option (gSt) :=
  if s0 = (0 : Int32) then
    (if (2000 : Int32) ≤ (u.1 42 19) then
      (M_Model_note_b76 x3 x4 s0 (0 : Int32) x1 u)
    else
      (M_Model_note_b71 x3 x4 s0 x1 u))
  else
    (M_Model_note_b71 x3 x4 s0 x1 u)
set_option maxHeartbeats 4000000 in
set_option maxRecDepth 100000 in
theorem t_Model_note_b52 (C : gX "TermDeskModel" prog_13_method_37_code 6 none 4 88 R cells slots cy D ρ A p s m args meth c) {x1 : Int32} {x3 : Int32} {x4 : Int32} {s0 : Int32} {u : gSt} {z : gSt} (hM : M_Model_note_b52 x1 x3 x4 s0 u = some z) (hR : gRtV p l e R s m args below meth c Q H0 cells slots cy D ρ A prog_13_method_37_code z) : gAt p l e R s m args below meth c Q H0 cells slots cy D ρ A 6 52 [(0, .ref (ρ 42)), (1, .int x1), (3, .int x3), (4, .int x4)] [.int s0] u := by
  intro ls H locs hl hP hS
  have hx := C.1
  have hb := C.2.1
  unfold M_Model_note_b52 at hM
  refine lv_istore (lv' := [(5, .int s0), (0, .ref (ρ 42)), (1, .int x1), (3, .int x3), (4, .int x4)]) hx hb d_Model_note_52 hl (by decide) rfl (fun ls hl => ?_)
  refine lv_aload_n hx hb d_Model_note_54 rfl (lv_at hl 1 rfl) ?_
  refine lv_iload_n hx hb d_Model_note_55 rfl (lv_at hl 2 rfl) ?_
  refine lv_iload hx hb d_Model_note_56 (lv_at hl 0 rfl) ?_
  refine lv_if_ne (tgt := 71) hx hb d_Model_note_58 (by decide) (fun hc58 => ?_) (fun hc58 => ?_)
  · replace hM := gi_f hc58 hM
    exact t_Model_note_b71 C hM hR ls H locs (lv_sub hl [1, 3, 4, 0] rfl) hP hS
  · replace hM := gi_t hc58 hM
    refine lv_aload_n hx hb d_Model_note_61 rfl (lv_at hl 1 rfl) ?_
    refine g_getI C hP gl_DeskModel_207 rfl rfl d_Model_note_62 ?_
    refine lv_sipush (v := (2000 : Int32)) hx hb d_Model_note_65 (by decide) ?_
    refine lv_icmp_ge (tgt := 75) hx hb d_Model_note_68 (by decide) (fun hc68 => ?_) (fun hc68 => ?_)
    · replace hM := gi_t hc68 hM
      refine lv_iconst (v := (0 : Int32)) hx hb d_Model_note_75 (by decide) ?_
      exact t_Model_note_b76 C hM hR ls H locs (lv_sub hl [1, 3, 4, 0] rfl) hP hS
    · replace hM := gi_f hc68 hM
      exact t_Model_note_b71 C hM hR ls H locs (lv_sub hl [1, 3, 4, 0] rfl) hP hS
noncomputable def M_Model_note_b47 (x1 : Int32) (x3 : Int32) (x4 : Int32) (u : gSt) : Option (gSt) :=
  M_Model_note_b52 x1 x3 x4 (1 : Int32) u
set_option maxHeartbeats 4000000 in
set_option maxRecDepth 100000 in
theorem t_Model_note_b47 (C : gX "TermDeskModel" prog_13_method_37_code 6 none 4 88 R cells slots cy D ρ A p s m args meth c) {x1 : Int32} {x3 : Int32} {x4 : Int32} {u : gSt} {z : gSt} (hM : M_Model_note_b47 x1 x3 x4 u = some z) (hR : gRtV p l e R s m args below meth c Q H0 cells slots cy D ρ A prog_13_method_37_code z) : gAt p l e R s m args below meth c Q H0 cells slots cy D ρ A 6 47 [(0, .ref (ρ 42)), (1, .int x1), (3, .int x3), (4, .int x4)] [] u := by
  intro ls H locs hl hP hS
  have hx := C.1
  have hb := C.2.1
  unfold M_Model_note_b47 at hM
  refine lv_iconst (v := (1 : Int32)) hx hb d_Model_note_47 (by decide) ?_
  refine lv_goto (tgt := 52) hx hb d_Model_note_48 (by decide) ?_
  exact t_Model_note_b52 C hM hR ls H locs (lv_sub hl [0, 1, 2, 3] rfl) hP hS
noncomputable def M_Model_note (x1 : Int32) (x2 : Int32) (u : gSt) : Option (gSt) :=
  (M_Model_geneNext u).bind fun q1 =>
  if (q1.2.1 42 2) = (0 : Int32) then
    ((M_Model_youngTerm q1.2).bind fun q14 =>
    if (q14.2.1 42 2) = (0 : Int32) then
      (if x2 = (0 : Int32) then
        (M_Model_note_b47 x1 q1.1 q14.1 q14.2)
      else
        (gc (gIn (((200 : Int32) * q1.1) + q14.1) (gLen 52)) <| if (q14.2.2.2.1 52 (gIx (((200 : Int32) * q1.1) + q14.1))) = (0 : Int32) then
          (M_Model_note_b52 x1 q1.1 q14.1 (0 : Int32) q14.2)
        else
          (M_Model_note_b47 x1 q1.1 q14.1 q14.2)))
    else
      (some q14.2))
  else
    (some q1.2)
set_option maxHeartbeats 4000000 in
set_option maxRecDepth 100000 in
theorem t_Model_note (C : gX "TermDeskModel" prog_13_method_37_code 6 none 4 88 R cells slots cy D ρ A p s m args meth c) {x1 : Int32} {x2 : Int32} {u : gSt} {z : gSt} (hM : M_Model_note x1 x2 u = some z) (hR : gRtV p l e R s m args below meth c Q H0 cells slots cy D ρ A prog_13_method_37_code z) : gAt p l e R s m args below meth c Q H0 cells slots cy D ρ A 6 0 [(0, .ref (ρ 42)), (1, .int x1), (2, .int x2)] [] u := by
  intro ls H locs hl hP hS
  have hx := C.1
  have hb := C.2.1
  unfold M_Model_note at hM
  refine lv_aload_n hx hb d_Model_note_0 rfl (lv_at hl 0 rfl) ?_
  obtain ⟨q1, hq1, hM⟩ := gb_some hM
  refine g_backI (g_runV (As := []) C hP (c_Model_geneNext C.2.2.2.2.2.2.2.2.1 hq1) gi_Model_geneNext gm_Model_204 rfl rfl (by decide) (by decide) hl.1 rfl (Nat.le_of_ble_eq_true rfl) d_Model_note_1) hS (fun H locs hP hS => ?_)
  refine lv_istore_n (lv' := [(3, .int q1.1), (0, .ref (ρ 42)), (1, .int x1), (2, .int x2)]) hx hb d_Model_note_4 rfl hl (by decide) rfl (fun ls hl => ?_)
  refine lv_aload_n hx hb d_Model_note_5 rfl (lv_at hl 1 rfl) ?_
  refine g_getI C hP gl_DeskModel_137 rfl rfl d_Model_note_6 ?_
  refine lv_if_eq (tgt := 13) hx hb d_Model_note_9 (by decide) (fun hc9 => ?_) (fun hc9 => ?_)
  · replace hM := gi_t hc9 hM
    refine lv_aload_n hx hb d_Model_note_13 rfl (lv_at hl 1 rfl) ?_
    obtain ⟨q14, hq14, hM⟩ := gb_some hM
    refine g_backI (g_runV (As := []) C hP (c_Model_youngTerm C.2.2.2.2.2.2.2.2.1 hq14) gi_Model_youngTerm gm_Model_194 rfl rfl (by decide) (by decide) hl.1 rfl (Nat.le_of_ble_eq_true rfl) d_Model_note_14) hS (fun H locs hP hS => ?_)
    refine lv_istore (lv' := [(4, .int q14.1), (3, .int q1.1), (0, .ref (ρ 42)), (1, .int x1), (2, .int x2)]) hx hb d_Model_note_17 hl (by decide) rfl (fun ls hl => ?_)
    refine lv_aload_n hx hb d_Model_note_19 rfl (lv_at hl 2 rfl) ?_
    refine g_getI C hP gl_DeskModel_137 rfl rfl d_Model_note_20 ?_
    refine lv_if_eq (tgt := 27) hx hb d_Model_note_23 (by decide) (fun hc23 => ?_) (fun hc23 => ?_)
    · replace hM := gi_t hc23 hM
      refine lv_iload_n hx hb d_Model_note_27 rfl (lv_at hl 4 rfl) ?_
      refine lv_if_eq (tgt := 47) hx hb d_Model_note_28 (by decide) (fun hc28 => ?_) (fun hc28 => ?_)
      · replace hM := gi_t hc28 hM
        exact t_Model_note_b47 C hM hR ls H locs (lv_sub hl [2, 3, 1, 0] rfl) hP hS
      · replace hM := gi_f hc28 hM
        refine lv_aload_n hx hb d_Model_note_31 rfl (lv_at hl 2 rfl) ?_
        refine g_getR (b := 52) C hP gl_DeskModel_44 rfl rfl rfl d_Model_note_32 ?_
        refine lv_sipush (v := (200 : Int32)) hx hb d_Model_note_35 (by decide) ?_
        refine lv_iload_n hx hb d_Model_note_38 rfl (lv_at hl 1 rfl) ?_
        refine lv_imul hx hb d_Model_note_39 ?_
        refine lv_iload hx hb d_Model_note_40 (lv_at hl 0 rfl) ?_
        refine lv_iadd hx hb d_Model_note_42 ?_
        obtain ⟨hi43, hM⟩ := gc_some hM
        refine g_zald C hP rfl hi43 d_Model_note_43 ?_
        refine lv_if_eq (tgt := 51) hx hb d_Model_note_44 (by decide) (fun hc44 => ?_) (fun hc44 => ?_)
        · replace hM := gi_t hc44 hM
          refine lv_iconst (v := (0 : Int32)) hx hb d_Model_note_51 (by decide) ?_
          exact t_Model_note_b52 C hM hR ls H locs (lv_sub hl [2, 3, 1, 0] rfl) hP hS
        · replace hM := gi_f hc44 hM
          exact t_Model_note_b47 C hM hR ls H locs (lv_sub hl [2, 3, 1, 0] rfl) hP hS
    · replace hM := gi_f hc23 hM
      obtain rfl := Option.some.inj hM
      exact hR _ ls H locs d_Model_note_26 hP hS
  · replace hM := gi_f hc9 hM
    obtain rfl := Option.some.inj hM
    exact hR _ ls H locs d_Model_note_12 hP hS
theorem c_Model_note {l : Launch} {cy : Nat → ClassId} {D : va_G} {ρ : Nat → Nat} {A : Nat → Prop} (hD : gD ρ A) {x1 : Int32} {x2 : Int32} {u : gSt} {z : gSt} (hM : M_Model_note x1 x2 u = some z) : gCtV l y_Model_note prog_13_method_37_code 6 none 4 88 cy D ρ A [.ref (ρ 42), .int x1, .int x2] u z :=
  g_met (by decide) hD (Nat.le_of_ble_eq_true rfl) (fun p e s m below meth c ls X hl hP => t_Model_note X hM (fun pc ls H locs hd hP hS => g_vret X hP hS hd) ls _ [] hl hP va_S.rf)
end
section
variable {p : Program} {l : Launch} {e : Env} {R : Room} {s : State} {m : MethodId} {args : Array Value} {below : List Frame} {meth : Method} {c : Code} {Q : State → Prop} {H0 : Heap} {cells slots : Nat} {cy : Nat → ClassId} {D : va_G} {ρ : Nat → Nat} {A : Nat → Prop}
def y_Model_line : MethodName := ⟨"TermDeskModel", "line", "(II)V"⟩
theorem gi_Model_line : gMi y_Model_line prog_13_method_38_code 5 none 2 8 := ⟨(gWs_at 1178 (by decide +kernel) (by decide +kernel)), (gWs_at 1177 (by decide +kernel) (by decide +kernel)), (gWs_at 68 (by decide +kernel) (by decide +kernel)), (gWs_at 125 (by decide +kernel) (by decide +kernel)), ⟨by decide +kernel, by decide +kernel, by decide +kernel⟩, _, _, rfl⟩
theorem gm_Model_233 : gMk "TermDeskModel" 233 y_Model_line := Or.inl (gWs_at 1175 (by decide +kernel) (by decide +kernel))
theorem d_Model_line_0 : decode prog_13_method_38_code 0 = .ok (.iload_n 1, 1) := by decide +kernel
theorem d_Model_line_1 : decode prog_13_method_38_code 1 = .ok (.iload_n 2, 1) := by decide +kernel
theorem d_Model_line_2 : decode prog_13_method_38_code 2 = .ok (.if_icmp .ne 4, 3) := by decide +kernel
theorem d_Model_line_5 : decode prog_13_method_38_code 5 = .ok (.return_, 1) := by decide +kernel
theorem d_Model_line_6 : decode prog_13_method_38_code 6 = .ok (.aload_n 0, 1) := by decide +kernel
theorem d_Model_line_7 : decode prog_13_method_38_code 7 = .ok (.iload_n 2, 1) := by decide +kernel
theorem d_Model_line_8 : decode prog_13_method_38_code 8 = .ok (.putfield 143, 3) := by decide +kernel
theorem d_Model_line_11 : decode prog_13_method_38_code 11 = .ok (.aload_n 0, 1) := by decide +kernel
theorem d_Model_line_12 : decode prog_13_method_38_code 12 = .ok (.iload_n 1, 1) := by decide +kernel
theorem d_Model_line_13 : decode prog_13_method_38_code 13 = .ok (.putfield 150, 3) := by decide +kernel
theorem d_Model_line_16 : decode prog_13_method_38_code 16 = .ok (.aload_n 0, 1) := by decide +kernel
theorem d_Model_line_17 : decode prog_13_method_38_code 17 = .ok (.iload_n 1, 1) := by decide +kernel
theorem d_Model_line_18 : decode prog_13_method_38_code 18 = .ok (.putfield 140, 3) := by decide +kernel
theorem d_Model_line_21 : decode prog_13_method_38_code 21 = .ok (.aload_n 0, 1) := by decide +kernel
theorem d_Model_line_22 : decode prog_13_method_38_code 22 = .ok (.getfield 140, 3) := by decide +kernel
theorem d_Model_line_25 : decode prog_13_method_38_code 25 = .ok (.iload_n 2, 1) := by decide +kernel
theorem d_Model_line_26 : decode prog_13_method_38_code 26 = .ok (.if_icmp .ge 30, 3) := by decide +kernel
theorem d_Model_line_29 : decode prog_13_method_38_code 29 = .ok (.aload_n 0, 1) := by decide +kernel
theorem d_Model_line_30 : decode prog_13_method_38_code 30 = .ok (.getfield 8, 3) := by decide +kernel
theorem d_Model_line_33 : decode prog_13_method_38_code 33 = .ok (.aload_n 0, 1) := by decide +kernel
theorem d_Model_line_34 : decode prog_13_method_38_code 34 = .ok (.getfield 140, 3) := by decide +kernel
theorem d_Model_line_37 : decode prog_13_method_38_code 37 = .ok (.baload, 1) := by decide +kernel
theorem d_Model_line_38 : decode prog_13_method_38_code 38 = .ok (.bipush 32, 2) := by decide +kernel
theorem d_Model_line_40 : decode prog_13_method_38_code 40 = .ok (.if_icmp .eq 16, 3) := by decide +kernel
theorem d_Model_line_43 : decode prog_13_method_38_code 43 = .ok (.aload_n 0, 1) := by decide +kernel
theorem d_Model_line_44 : decode prog_13_method_38_code 44 = .ok (.dup, 1) := by decide +kernel
theorem d_Model_line_45 : decode prog_13_method_38_code 45 = .ok (.getfield 140, 3) := by decide +kernel
theorem d_Model_line_48 : decode prog_13_method_38_code 48 = .ok (.iconst 1, 1) := by decide +kernel
theorem d_Model_line_49 : decode prog_13_method_38_code 49 = .ok (.iadd, 1) := by decide +kernel
theorem d_Model_line_50 : decode prog_13_method_38_code 50 = .ok (.putfield 140, 3) := by decide +kernel
theorem d_Model_line_53 : decode prog_13_method_38_code 53 = .ok (.goto (-32), 3) := by decide +kernel
theorem d_Model_line_56 : decode prog_13_method_38_code 56 = .ok (.aload_n 0, 1) := by decide +kernel
theorem d_Model_line_57 : decode prog_13_method_38_code 57 = .ok (.getfield 140, 3) := by decide +kernel
theorem d_Model_line_60 : decode prog_13_method_38_code 60 = .ok (.istore_n 3, 1) := by decide +kernel
theorem d_Model_line_61 : decode prog_13_method_38_code 61 = .ok (.aload_n 0, 1) := by decide +kernel
theorem d_Model_line_62 : decode prog_13_method_38_code 62 = .ok (.iload_n 1, 1) := by decide +kernel
theorem d_Model_line_63 : decode prog_13_method_38_code 63 = .ok (.iload_n 3, 1) := by decide +kernel
theorem d_Model_line_64 : decode prog_13_method_38_code 64 = .ok (.bipush 116, 2) := by decide +kernel
theorem d_Model_line_66 : decode prog_13_method_38_code 66 = .ok (.bipush 101, 2) := by decide +kernel
theorem d_Model_line_68 : decode prog_13_method_38_code 68 = .ok (.bipush 114, 2) := by decide +kernel
theorem d_Model_line_70 : decode prog_13_method_38_code 70 = .ok (.bipush 109, 2) := by decide +kernel
theorem d_Model_line_72 : decode prog_13_method_38_code 72 = .ok (.iconst 0, 1) := by decide +kernel
theorem d_Model_line_73 : decode prog_13_method_38_code 73 = .ok (.invokevirtual 210, 3) := by decide +kernel
theorem d_Model_line_76 : decode prog_13_method_38_code 76 = .ok (.ifCond .eq 11, 3) := by decide +kernel
theorem d_Model_line_79 : decode prog_13_method_38_code 79 = .ok (.aload_n 0, 1) := by decide +kernel
theorem d_Model_line_80 : decode prog_13_method_38_code 80 = .ok (.iload_n 1, 1) := by decide +kernel
theorem d_Model_line_81 : decode prog_13_method_38_code 81 = .ok (.invokevirtual 214, 3) := by decide +kernel
theorem d_Model_line_84 : decode prog_13_method_38_code 84 = .ok (.goto 267, 3) := by decide +kernel
theorem d_Model_line_87 : decode prog_13_method_38_code 87 = .ok (.aload_n 0, 1) := by decide +kernel
theorem d_Model_line_88 : decode prog_13_method_38_code 88 = .ok (.iload_n 1, 1) := by decide +kernel
theorem d_Model_line_89 : decode prog_13_method_38_code 89 = .ok (.iload_n 3, 1) := by decide +kernel
theorem d_Model_line_90 : decode prog_13_method_38_code 90 = .ok (.bipush 97, 2) := by decide +kernel
theorem d_Model_line_92 : decode prog_13_method_38_code 92 = .ok (.bipush 108, 2) := by decide +kernel
theorem d_Model_line_94 : decode prog_13_method_38_code 94 = .ok (.bipush 105, 2) := by decide +kernel
theorem d_Model_line_96 : decode prog_13_method_38_code 96 = .ok (.bipush 97, 2) := by decide +kernel
theorem d_Model_line_98 : decode prog_13_method_38_code 98 = .ok (.bipush 115, 2) := by decide +kernel
theorem d_Model_line_100 : decode prog_13_method_38_code 100 = .ok (.invokevirtual 210, 3) := by decide +kernel
theorem d_Model_line_103 : decode prog_13_method_38_code 103 = .ok (.ifCond .eq 11, 3) := by decide +kernel
theorem d_Model_line_106 : decode prog_13_method_38_code 106 = .ok (.aload_n 0, 1) := by decide +kernel
theorem d_Model_line_107 : decode prog_13_method_38_code 107 = .ok (.iload_n 1, 1) := by decide +kernel
theorem d_Model_line_108 : decode prog_13_method_38_code 108 = .ok (.invokevirtual 217, 3) := by decide +kernel
theorem d_Model_line_111 : decode prog_13_method_38_code 111 = .ok (.goto 240, 3) := by decide +kernel
theorem d_Model_line_114 : decode prog_13_method_38_code 114 = .ok (.aload_n 0, 1) := by decide +kernel
theorem d_Model_line_115 : decode prog_13_method_38_code 115 = .ok (.iload_n 1, 1) := by decide +kernel
theorem d_Model_line_116 : decode prog_13_method_38_code 116 = .ok (.iload_n 3, 1) := by decide +kernel
theorem d_Model_line_117 : decode prog_13_method_38_code 117 = .ok (.bipush 105, 2) := by decide +kernel
theorem d_Model_line_119 : decode prog_13_method_38_code 119 = .ok (.bipush 115, 2) := by decide +kernel
theorem d_Model_line_121 : decode prog_13_method_38_code 121 = .ok (.bipush 97, 2) := by decide +kernel
theorem d_Model_line_123 : decode prog_13_method_38_code 123 = .ok (.iconst 0, 1) := by decide +kernel
theorem d_Model_line_124 : decode prog_13_method_38_code 124 = .ok (.iconst 0, 1) := by decide +kernel
theorem d_Model_line_125 : decode prog_13_method_38_code 125 = .ok (.invokevirtual 210, 3) := by decide +kernel
theorem d_Model_line_128 : decode prog_13_method_38_code 128 = .ok (.ifCond .ne 21, 3) := by decide +kernel
theorem d_Model_line_131 : decode prog_13_method_38_code 131 = .ok (.aload_n 0, 1) := by decide +kernel
theorem d_Model_line_132 : decode prog_13_method_38_code 132 = .ok (.iload_n 1, 1) := by decide +kernel
theorem d_Model_line_133 : decode prog_13_method_38_code 133 = .ok (.iload_n 3, 1) := by decide +kernel
theorem d_Model_line_134 : decode prog_13_method_38_code 134 = .ok (.bipush 112, 2) := by decide +kernel
theorem d_Model_line_136 : decode prog_13_method_38_code 136 = .ok (.bipush 97, 2) := by decide +kernel
theorem d_Model_line_138 : decode prog_13_method_38_code 138 = .ok (.bipush 114, 2) := by decide +kernel
theorem d_Model_line_140 : decode prog_13_method_38_code 140 = .ok (.bipush 116, 2) := by decide +kernel
theorem d_Model_line_142 : decode prog_13_method_38_code 142 = .ok (.iconst 0, 1) := by decide +kernel
theorem d_Model_line_143 : decode prog_13_method_38_code 143 = .ok (.invokevirtual 210, 3) := by decide +kernel
theorem d_Model_line_146 : decode prog_13_method_38_code 146 = .ok (.ifCond .eq 11, 3) := by decide +kernel
theorem d_Model_line_149 : decode prog_13_method_38_code 149 = .ok (.aload_n 0, 1) := by decide +kernel
theorem d_Model_line_150 : decode prog_13_method_38_code 150 = .ok (.iload_n 1, 1) := by decide +kernel
theorem d_Model_line_151 : decode prog_13_method_38_code 151 = .ok (.invokevirtual 220, 3) := by decide +kernel
theorem d_Model_line_154 : decode prog_13_method_38_code 154 = .ok (.goto 197, 3) := by decide +kernel
theorem d_Model_line_157 : decode prog_13_method_38_code 157 = .ok (.aload_n 0, 1) := by decide +kernel
theorem d_Model_line_158 : decode prog_13_method_38_code 158 = .ok (.iload_n 1, 1) := by decide +kernel
theorem d_Model_line_159 : decode prog_13_method_38_code 159 = .ok (.iload_n 3, 1) := by decide +kernel
theorem d_Model_line_160 : decode prog_13_method_38_code 160 = .ok (.bipush 111, 2) := by decide +kernel
theorem d_Model_line_162 : decode prog_13_method_38_code 162 = .ok (.bipush 108, 2) := by decide +kernel
theorem d_Model_line_164 : decode prog_13_method_38_code 164 = .ok (.bipush 100, 2) := by decide +kernel
theorem d_Model_line_166 : decode prog_13_method_38_code 166 = .ok (.iconst 0, 1) := by decide +kernel
theorem d_Model_line_167 : decode prog_13_method_38_code 167 = .ok (.iconst 0, 1) := by decide +kernel
theorem d_Model_line_168 : decode prog_13_method_38_code 168 = .ok (.invokevirtual 210, 3) := by decide +kernel
theorem d_Model_line_171 : decode prog_13_method_38_code 171 = .ok (.ifCond .eq 29, 3) := by decide +kernel
theorem d_Model_line_174 : decode prog_13_method_38_code 174 = .ok (.aload_n 0, 1) := by decide +kernel
theorem d_Model_line_175 : decode prog_13_method_38_code 175 = .ok (.invokevirtual 178, 3) := by decide +kernel
theorem d_Model_line_178 : decode prog_13_method_38_code 178 = .ok (.istore 4, 2) := by decide +kernel
theorem d_Model_line_180 : decode prog_13_method_38_code 180 = .ok (.aload_n 0, 1) := by decide +kernel
theorem d_Model_line_181 : decode prog_13_method_38_code 181 = .ok (.iload_n 1, 1) := by decide +kernel
theorem d_Model_line_182 : decode prog_13_method_38_code 182 = .ok (.iconst 1, 1) := by decide +kernel
theorem d_Model_line_183 : decode prog_13_method_38_code 183 = .ok (.invokevirtual 187, 3) := by decide +kernel
theorem d_Model_line_186 : decode prog_13_method_38_code 186 = .ok (.ifCond .eq 11, 3) := by decide +kernel
theorem d_Model_line_189 : decode prog_13_method_38_code 189 = .ok (.aload_n 0, 1) := by decide +kernel
theorem d_Model_line_190 : decode prog_13_method_38_code 190 = .ok (.getfield 34, 3) := by decide +kernel
theorem d_Model_line_193 : decode prog_13_method_38_code 193 = .ok (.iload 4, 2) := by decide +kernel
theorem d_Model_line_195 : decode prog_13_method_38_code 195 = .ok (.iconst 1, 1) := by decide +kernel
theorem d_Model_line_196 : decode prog_13_method_38_code 196 = .ok (.iastore, 1) := by decide +kernel
theorem d_Model_line_197 : decode prog_13_method_38_code 197 = .ok (.goto 154, 3) := by decide +kernel
theorem d_Model_line_200 : decode prog_13_method_38_code 200 = .ok (.aload_n 0, 1) := by decide +kernel
theorem d_Model_line_201 : decode prog_13_method_38_code 201 = .ok (.iload_n 1, 1) := by decide +kernel
theorem d_Model_line_202 : decode prog_13_method_38_code 202 = .ok (.iload_n 3, 1) := by decide +kernel
theorem d_Model_line_203 : decode prog_13_method_38_code 203 = .ok (.bipush 103, 2) := by decide +kernel
theorem d_Model_line_205 : decode prog_13_method_38_code 205 = .ok (.bipush 101, 2) := by decide +kernel
theorem d_Model_line_207 : decode prog_13_method_38_code 207 = .ok (.bipush 110, 2) := by decide +kernel
theorem d_Model_line_209 : decode prog_13_method_38_code 209 = .ok (.bipush 101, 2) := by decide +kernel
theorem d_Model_line_211 : decode prog_13_method_38_code 211 = .ok (.iconst 0, 1) := by decide +kernel
theorem d_Model_line_212 : decode prog_13_method_38_code 212 = .ok (.invokevirtual 210, 3) := by decide +kernel
theorem d_Model_line_215 : decode prog_13_method_38_code 215 = .ok (.ifCond .eq 11, 3) := by decide +kernel
theorem d_Model_line_218 : decode prog_13_method_38_code 218 = .ok (.aload_n 0, 1) := by decide +kernel
theorem d_Model_line_219 : decode prog_13_method_38_code 219 = .ok (.iload_n 1, 1) := by decide +kernel
theorem d_Model_line_220 : decode prog_13_method_38_code 220 = .ok (.invokevirtual 223, 3) := by decide +kernel
theorem d_Model_line_223 : decode prog_13_method_38_code 223 = .ok (.goto 128, 3) := by decide +kernel
theorem d_Model_line_226 : decode prog_13_method_38_code 226 = .ok (.aload_n 0, 1) := by decide +kernel
theorem d_Model_line_227 : decode prog_13_method_38_code 227 = .ok (.iload_n 1, 1) := by decide +kernel
theorem d_Model_line_228 : decode prog_13_method_38_code 228 = .ok (.iload_n 3, 1) := by decide +kernel
theorem d_Model_line_229 : decode prog_13_method_38_code 229 = .ok (.bipush 110, 2) := by decide +kernel
theorem d_Model_line_231 : decode prog_13_method_38_code 231 = .ok (.bipush 111, 2) := by decide +kernel
theorem d_Model_line_233 : decode prog_13_method_38_code 233 = .ok (.bipush 116, 2) := by decide +kernel
theorem d_Model_line_235 : decode prog_13_method_38_code 235 = .ok (.bipush 101, 2) := by decide +kernel
theorem d_Model_line_237 : decode prog_13_method_38_code 237 = .ok (.iconst 0, 1) := by decide +kernel
theorem d_Model_line_238 : decode prog_13_method_38_code 238 = .ok (.invokevirtual 210, 3) := by decide +kernel
theorem d_Model_line_241 : decode prog_13_method_38_code 241 = .ok (.ifCond .eq 12, 3) := by decide +kernel
theorem d_Model_line_244 : decode prog_13_method_38_code 244 = .ok (.aload_n 0, 1) := by decide +kernel
theorem d_Model_line_245 : decode prog_13_method_38_code 245 = .ok (.iload_n 1, 1) := by decide +kernel
theorem d_Model_line_246 : decode prog_13_method_38_code 246 = .ok (.iconst 1, 1) := by decide +kernel
theorem d_Model_line_247 : decode prog_13_method_38_code 247 = .ok (.invokevirtual 226, 3) := by decide +kernel
theorem d_Model_line_250 : decode prog_13_method_38_code 250 = .ok (.goto 101, 3) := by decide +kernel
theorem d_Model_line_253 : decode prog_13_method_38_code 253 = .ok (.aload_n 0, 1) := by decide +kernel
theorem d_Model_line_254 : decode prog_13_method_38_code 254 = .ok (.iload_n 1, 1) := by decide +kernel
theorem d_Model_line_255 : decode prog_13_method_38_code 255 = .ok (.iload_n 3, 1) := by decide +kernel
theorem d_Model_line_256 : decode prog_13_method_38_code 256 = .ok (.bipush 110, 2) := by decide +kernel
theorem d_Model_line_258 : decode prog_13_method_38_code 258 = .ok (.bipush 111, 2) := by decide +kernel
theorem d_Model_line_260 : decode prog_13_method_38_code 260 = .ok (.bipush 116, 2) := by decide +kernel
theorem d_Model_line_262 : decode prog_13_method_38_code 262 = .ok (.iconst 0, 1) := by decide +kernel
theorem d_Model_line_263 : decode prog_13_method_38_code 263 = .ok (.iconst 0, 1) := by decide +kernel
theorem d_Model_line_264 : decode prog_13_method_38_code 264 = .ok (.invokevirtual 210, 3) := by decide +kernel
theorem d_Model_line_267 : decode prog_13_method_38_code 267 = .ok (.ifCond .eq 12, 3) := by decide +kernel
theorem d_Model_line_270 : decode prog_13_method_38_code 270 = .ok (.aload_n 0, 1) := by decide +kernel
theorem d_Model_line_271 : decode prog_13_method_38_code 271 = .ok (.iload_n 1, 1) := by decide +kernel
theorem d_Model_line_272 : decode prog_13_method_38_code 272 = .ok (.iconst 0, 1) := by decide +kernel
theorem d_Model_line_273 : decode prog_13_method_38_code 273 = .ok (.invokevirtual 226, 3) := by decide +kernel
theorem d_Model_line_276 : decode prog_13_method_38_code 276 = .ok (.goto 75, 3) := by decide +kernel
theorem d_Model_line_279 : decode prog_13_method_38_code 279 = .ok (.aload_n 0, 1) := by decide +kernel
theorem d_Model_line_280 : decode prog_13_method_38_code 280 = .ok (.iload_n 1, 1) := by decide +kernel
theorem d_Model_line_281 : decode prog_13_method_38_code 281 = .ok (.iload_n 3, 1) := by decide +kernel
theorem d_Model_line_282 : decode prog_13_method_38_code 282 = .ok (.bipush 115, 2) := by decide +kernel
theorem d_Model_line_284 : decode prog_13_method_38_code 284 = .ok (.bipush 116, 2) := by decide +kernel
theorem d_Model_line_286 : decode prog_13_method_38_code 286 = .ok (.bipush 117, 2) := by decide +kernel
theorem d_Model_line_288 : decode prog_13_method_38_code 288 = .ok (.bipush 100, 2) := by decide +kernel
theorem d_Model_line_290 : decode prog_13_method_38_code 290 = .ok (.bipush 121, 2) := by decide +kernel
theorem d_Model_line_292 : decode prog_13_method_38_code 292 = .ok (.invokevirtual 210, 3) := by decide +kernel
theorem d_Model_line_295 : decode prog_13_method_38_code 295 = .ok (.ifCond .eq 49, 3) := by decide +kernel
theorem d_Model_line_298 : decode prog_13_method_38_code 298 = .ok (.aload_n 0, 1) := by decide +kernel
theorem d_Model_line_299 : decode prog_13_method_38_code 299 = .ok (.invokevirtual 204, 3) := by decide +kernel
theorem d_Model_line_302 : decode prog_13_method_38_code 302 = .ok (.istore 4, 2) := by decide +kernel
theorem d_Model_line_304 : decode prog_13_method_38_code 304 = .ok (.aload_n 0, 1) := by decide +kernel
theorem d_Model_line_305 : decode prog_13_method_38_code 305 = .ok (.iload_n 1, 1) := by decide +kernel
theorem d_Model_line_306 : decode prog_13_method_38_code 306 = .ok (.iconst 1, 1) := by decide +kernel
theorem d_Model_line_307 : decode prog_13_method_38_code 307 = .ok (.invokevirtual 187, 3) := by decide +kernel
theorem d_Model_line_310 : decode prog_13_method_38_code 310 = .ok (.ifCond .eq 31, 3) := by decide +kernel
theorem d_Model_line_313 : decode prog_13_method_38_code 313 = .ok (.aload_n 0, 1) := by decide +kernel
theorem d_Model_line_314 : decode prog_13_method_38_code 314 = .ok (.getfield 50, 3) := by decide +kernel
theorem d_Model_line_317 : decode prog_13_method_38_code 317 = .ok (.iload 4, 2) := by decide +kernel
theorem d_Model_line_319 : decode prog_13_method_38_code 319 = .ok (.baload, 1) := by decide +kernel
theorem d_Model_line_320 : decode prog_13_method_38_code 320 = .ok (.ifCond .ne 21, 3) := by decide +kernel
theorem d_Model_line_323 : decode prog_13_method_38_code 323 = .ok (.aload_n 0, 1) := by decide +kernel
theorem d_Model_line_324 : decode prog_13_method_38_code 324 = .ok (.getfield 50, 3) := by decide +kernel
theorem d_Model_line_327 : decode prog_13_method_38_code 327 = .ok (.iload 4, 2) := by decide +kernel
theorem d_Model_line_329 : decode prog_13_method_38_code 329 = .ok (.iconst 1, 1) := by decide +kernel
theorem d_Model_line_330 : decode prog_13_method_38_code 330 = .ok (.bastore, 1) := by decide +kernel
theorem d_Model_line_331 : decode prog_13_method_38_code 331 = .ok (.aload_n 0, 1) := by decide +kernel
theorem d_Model_line_332 : decode prog_13_method_38_code 332 = .ok (.dup, 1) := by decide +kernel
theorem d_Model_line_333 : decode prog_13_method_38_code 333 = .ok (.getfield 230, 3) := by decide +kernel
theorem d_Model_line_336 : decode prog_13_method_38_code 336 = .ok (.iconst 1, 1) := by decide +kernel
theorem d_Model_line_337 : decode prog_13_method_38_code 337 = .ok (.iadd, 1) := by decide +kernel
theorem d_Model_line_338 : decode prog_13_method_38_code 338 = .ok (.putfield 230, 3) := by decide +kernel
theorem d_Model_line_341 : decode prog_13_method_38_code 341 = .ok (.goto 10, 3) := by decide +kernel
theorem d_Model_line_344 : decode prog_13_method_38_code 344 = .ok (.aload_n 0, 1) := by decide +kernel
theorem d_Model_line_345 : decode prog_13_method_38_code 345 = .ok (.iconst 1, 1) := by decide +kernel
theorem d_Model_line_346 : decode prog_13_method_38_code 346 = .ok (.iload_n 1, 1) := by decide +kernel
theorem d_Model_line_347 : decode prog_13_method_38_code 347 = .ok (.invokevirtual 146, 3) := by decide +kernel
theorem d_Model_line_350 : decode prog_13_method_38_code 350 = .ok (.pop, 1) := by decide +kernel
theorem d_Model_line_351 : decode prog_13_method_38_code 351 = .ok (.return_, 1) := by decide +kernel
noncomputable def M_Model_line_b21 (x1 : Int32) (x2 : Int32) (u : gSt) : Option ((Int32 × Int32 × gSt) ⊕ ((Int32 × gSt))) :=
  if x2 ≤ (u.1 42 23) then
    (some (.inr (x1, u)))
  else
    (gc (gIn (u.1 42 23) (gLen 43)) <| if (u.2.2.1 43 (gIx (u.1 42 23))) = (32 : Int32) then
      (some (.inr (x1, u)))
    else
      ((some (gsF u 42 23 ((u.1 42 23) + (1 : Int32)))).bind fun u50 =>
      some (.inl (x1, x2, u50))))
set_option maxHeartbeats 4000000 in
set_option maxRecDepth 100000 in
theorem t_Model_line_b21 (C : gX "TermDeskModel" prog_13_method_38_code 5 none 5 114 R cells slots cy D ρ A p s m args meth c) {x1 : Int32} {x2 : Int32} {u : gSt} {z : (Int32 × Int32 × gSt) ⊕ ((Int32 × gSt))} (hM : M_Model_line_b21 x1 x2 u = some z) (hN : ∀ x1' x2' u', z = .inl (x1', x2', u') → gAt p l e R s m args below meth c Q H0 cells slots cy D ρ A 5 21 [(0, .ref (ρ 42)), (1, .int (x1')), (2, .int (x2'))] [] (u')) (hE0 : ∀ x1' u', z = .inr (x1', u') → gAt p l e R s m args below meth c Q H0 cells slots cy D ρ A 5 56 [(0, .ref (ρ 42)), (1, .int (x1'))] [] (u')) : gAt p l e R s m args below meth c Q H0 cells slots cy D ρ A 5 21 [(0, .ref (ρ 42)), (1, .int x1), (2, .int x2)] [] u := by
  intro ls H locs hl hP hS
  have hx := C.1
  have hb := C.2.1
  unfold M_Model_line_b21 at hM
  refine lv_aload_n hx hb d_Model_line_21 rfl (lv_at hl 0 rfl) ?_
  refine g_getI C hP gl_DeskModel_140 rfl rfl d_Model_line_22 ?_
  refine lv_iload_n hx hb d_Model_line_25 rfl (lv_at hl 2 rfl) ?_
  refine lv_icmp_ge (tgt := 56) hx hb d_Model_line_26 (by decide) (fun hc26 => ?_) (fun hc26 => ?_)
  · replace hM := gi_t hc26 hM
    exact hE0 _ _ (Option.some.inj hM).symm ls H locs (lv_sub hl [0, 1] rfl) hP hS
  · replace hM := gi_f hc26 hM
    refine lv_aload_n hx hb d_Model_line_29 rfl (lv_at hl 0 rfl) ?_
    refine g_getR (b := 43) C hP gl_DeskModel_8 rfl rfl rfl d_Model_line_30 ?_
    refine lv_aload_n hx hb d_Model_line_33 rfl (lv_at hl 0 rfl) ?_
    refine g_getI C hP gl_DeskModel_140 rfl rfl d_Model_line_34 ?_
    obtain ⟨hi37, hM⟩ := gc_some hM
    refine g_bald C hP rfl hi37 d_Model_line_37 ?_
    refine lv_bipush (v := (32 : Int32)) hx hb d_Model_line_38 (by decide) ?_
    refine lv_icmp_eq (tgt := 56) hx hb d_Model_line_40 (by decide) (fun hc40 => ?_) (fun hc40 => ?_)
    · replace hM := gi_t hc40 hM
      exact hE0 _ _ (Option.some.inj hM).symm ls H locs (lv_sub hl [0, 1] rfl) hP hS
    · replace hM := gi_f hc40 hM
      refine lv_aload_n hx hb d_Model_line_43 rfl (lv_at hl 0 rfl) ?_
      refine lv_dup hx hb d_Model_line_44 rfl ?_
      refine g_getI C hP gl_DeskModel_140 rfl rfl d_Model_line_45 ?_
      refine lv_iconst (v := (1 : Int32)) hx hb d_Model_line_48 (by decide) ?_
      refine lv_iadd hx hb d_Model_line_49 ?_
      obtain ⟨u50, e50, hM⟩ := gb_some hM
      refine g_putI C hP hS gl_DeskModel_140 rfl rfl gq_8_23 d_Model_line_50 (fun H locs hP hS => ?_)
      rw [Option.some.inj e50] at hP
      refine lv_goto (tgt := 21) hx hb d_Model_line_53 (by decide) ?_
      exact hN _ _ _ (Option.some.inj hM).symm ls H locs (lv_sub hl [0, 1, 2] rfl) hP hS
noncomputable def M_Model_line_L21 : (Int32 × Int32 × gSt) → Option ((Int32 × Int32 × gSt) ⊕ ((Int32 × gSt))) := fun x => M_Model_line_b21 x.1 x.2.1 x.2.2
theorem t_Model_line_L21 (C : gX "TermDeskModel" prog_13_method_38_code 5 none 5 114 R cells slots cy D ρ A p s m args meth c) {x1 : Int32} {x2 : Int32} {u : gSt} {yy : (Int32 × gSt)} (hL : gLp M_Model_line_L21 (x1, x2, u) = some yy) (hE0 : (∀ y', yy = y' → gAt p l e R s m args below meth c Q H0 cells slots cy D ρ A 5 56 [(0, .ref (ρ 42)), (1, .int (y'.1))] [] (y'.2))) : gAt p l e R s m args below meth c Q H0 cells slots cy D ρ A 5 21 [(0, .ref (ρ 42)), (1, .int x1), (2, .int x2)] [] u :=
  g_loop (f := M_Model_line_L21) (P := fun x => gAt p l e R s m args below meth c Q H0 cells slots cy D ρ A 5 21 [(0, .ref (ρ 42)), (1, .int x.1), (2, .int x.2.1)] [] x.2.2) (E := fun yy => (∀ y', yy = y' → gAt p l e R s m args below meth c Q H0 cells slots cy D ρ A 5 56 [(0, .ref (ρ 42)), (1, .int (y'.1))] [] (y'.2))) (fun x z hf hN hE => t_Model_line_b21 C hf (fun x1' x2' u' h => hN (x1', x2', u') h) (fun x1' u' h => (hE _ h) (x1', u') rfl)) hL hE0
noncomputable def M_Model_line_b351 (u : gSt) : Option (gSt) :=
  some u
set_option maxHeartbeats 4000000 in
set_option maxRecDepth 100000 in
theorem t_Model_line_b351 (C : gX "TermDeskModel" prog_13_method_38_code 5 none 5 114 R cells slots cy D ρ A p s m args meth c) {u : gSt} {z : gSt} (hM : M_Model_line_b351 u = some z) (hR : gRtV p l e R s m args below meth c Q H0 cells slots cy D ρ A prog_13_method_38_code z) : gAt p l e R s m args below meth c Q H0 cells slots cy D ρ A 5 351 [] [] u := by
  intro ls H locs hl hP hS
  have hx := C.1
  have hb := C.2.1
  unfold M_Model_line_b351 at hM
  obtain rfl := Option.some.inj hM
  exact hR _ ls H locs d_Model_line_351 hP hS
noncomputable def M_Model_line_b149 (x1 : Int32) (u : gSt) : Option (gSt) :=
  (M_Model_link x1 u).bind fun q151 =>
  M_Model_line_b351 q151
set_option maxHeartbeats 4000000 in
set_option maxRecDepth 100000 in
theorem t_Model_line_b149 (C : gX "TermDeskModel" prog_13_method_38_code 5 none 5 114 R cells slots cy D ρ A p s m args meth c) {x1 : Int32} {u : gSt} {z : gSt} (hM : M_Model_line_b149 x1 u = some z) (hR : gRtV p l e R s m args below meth c Q H0 cells slots cy D ρ A prog_13_method_38_code z) : gAt p l e R s m args below meth c Q H0 cells slots cy D ρ A 5 149 [(0, .ref (ρ 42)), (1, .int x1)] [] u := by
  intro ls H locs hl hP hS
  have hx := C.1
  have hb := C.2.1
  unfold M_Model_line_b149 at hM
  refine lv_aload_n hx hb d_Model_line_149 rfl (lv_at hl 0 rfl) ?_
  refine lv_iload_n hx hb d_Model_line_150 rfl (lv_at hl 1 rfl) ?_
  obtain ⟨q151, hq151, hM⟩ := gb_some hM
  refine g_backV (g_runV (As := [.int x1]) C hP (c_Model_link C.2.2.2.2.2.2.2.2.1 hq151) gi_Model_link gm_Model_220 rfl rfl (by decide) (by decide) hl.1 rfl (Nat.le_of_ble_eq_true rfl) d_Model_line_151) hS (fun H locs hP hS => ?_)
  refine lv_goto (tgt := 351) hx hb d_Model_line_154 (by decide) ?_
  exact t_Model_line_b351 C hM hR ls H locs (lv_sub hl [] rfl) hP hS
noncomputable def M_Model_line_b341 (u : gSt) : Option (gSt) :=
  M_Model_line_b351 u
set_option maxHeartbeats 4000000 in
set_option maxRecDepth 100000 in
theorem t_Model_line_b341 (C : gX "TermDeskModel" prog_13_method_38_code 5 none 5 114 R cells slots cy D ρ A p s m args meth c) {u : gSt} {z : gSt} (hM : M_Model_line_b341 u = some z) (hR : gRtV p l e R s m args below meth c Q H0 cells slots cy D ρ A prog_13_method_38_code z) : gAt p l e R s m args below meth c Q H0 cells slots cy D ρ A 5 341 [] [] u := by
  intro ls H locs hl hP hS
  have hx := C.1
  have hb := C.2.1
  unfold M_Model_line_b341 at hM
  refine lv_goto (tgt := 351) hx hb d_Model_line_341 (by decide) ?_
  exact t_Model_line_b351 C hM hR ls H locs (lv_sub hl [] rfl) hP hS
noncomputable def M_Model_line_b197 (u : gSt) : Option (gSt) :=
  M_Model_line_b351 u
set_option maxHeartbeats 4000000 in
set_option maxRecDepth 100000 in
theorem t_Model_line_b197 (C : gX "TermDeskModel" prog_13_method_38_code 5 none 5 114 R cells slots cy D ρ A p s m args meth c) {u : gSt} {z : gSt} (hM : M_Model_line_b197 u = some z) (hR : gRtV p l e R s m args below meth c Q H0 cells slots cy D ρ A prog_13_method_38_code z) : gAt p l e R s m args below meth c Q H0 cells slots cy D ρ A 5 197 [] [] u := by
  intro ls H locs hl hP hS
  have hx := C.1
  have hb := C.2.1
  unfold M_Model_line_b197 at hM
  refine lv_goto (tgt := 351) hx hb d_Model_line_197 (by decide) ?_
  exact t_Model_line_b351 C hM hR ls H locs (lv_sub hl [] rfl) hP hS
noncomputable def M_Model_line (x1 : Int32) (x2 : Int32) (u : gSt) : Option (gSt) :=
  if x1 = x2 then
    (some u)
  else
    ((some (gsF u 42 24 x2)).bind fun u8 =>
    (some (gsF u8 42 22 x1)).bind fun u13 =>
    (some (gsF u13 42 23 x1)).bind fun u18 =>
    (gLp M_Model_line_L21 (x1, x2, u18)).bind fun y21 =>
    (M_Model_begins y21.1 (y21.2.1 42 23) (116 : Int32) (101 : Int32) (114 : Int32) (109 : Int32) (0 : Int32) y21.2).bind fun q73 =>
    if q73.1 = (0 : Int32) then
      ((M_Model_begins y21.1 (y21.2.1 42 23) (97 : Int32) (108 : Int32) (105 : Int32) (97 : Int32) (115 : Int32) q73.2).bind fun q100 =>
      if q100.1 = (0 : Int32) then
        ((M_Model_begins y21.1 (y21.2.1 42 23) (105 : Int32) (115 : Int32) (97 : Int32) (0 : Int32) (0 : Int32) q100.2).bind fun q125 =>
        if q125.1 = (0 : Int32) then
          ((M_Model_begins y21.1 (y21.2.1 42 23) (112 : Int32) (97 : Int32) (114 : Int32) (116 : Int32) (0 : Int32) q125.2).bind fun q143 =>
          if q143.1 = (0 : Int32) then
            ((M_Model_begins y21.1 (y21.2.1 42 23) (111 : Int32) (108 : Int32) (100 : Int32) (0 : Int32) (0 : Int32) q143.2).bind fun q168 =>
            if q168.1 = (0 : Int32) then
              ((M_Model_begins y21.1 (y21.2.1 42 23) (103 : Int32) (101 : Int32) (110 : Int32) (101 : Int32) (0 : Int32) q168.2).bind fun q212 =>
              if q212.1 = (0 : Int32) then
                ((M_Model_begins y21.1 (y21.2.1 42 23) (110 : Int32) (111 : Int32) (116 : Int32) (101 : Int32) (0 : Int32) q212.2).bind fun q238 =>
                if q238.1 = (0 : Int32) then
                  ((M_Model_begins y21.1 (y21.2.1 42 23) (110 : Int32) (111 : Int32) (116 : Int32) (0 : Int32) (0 : Int32) q238.2).bind fun q264 =>
                  if q264.1 = (0 : Int32) then
                    ((M_Model_begins y21.1 (y21.2.1 42 23) (115 : Int32) (116 : Int32) (117 : Int32) (100 : Int32) (121 : Int32) q264.2).bind fun q292 =>
                    if q292.1 = (0 : Int32) then
                      ((M_Model_stop (1 : Int32) y21.1 q292.2).bind fun q347 =>
                      M_Model_line_b351 q347.2)
                    else
                      ((M_Model_geneNext q292.2).bind fun q299 =>
                      (M_Model_ends y21.1 (1 : Int32) q299.2).bind fun q307 =>
                      if q307.1 = (0 : Int32) then
                        (M_Model_line_b341 q307.2)
                      else
                        (gc (gIn q299.1 (gLen 54)) <| if (q307.2.2.2.1 54 (gIx q299.1)) = (0 : Int32) then
                          (gc (gIn q299.1 (gLen 54)) <| (some (gsA q307.2 54 (gIx q299.1) (1 : Int32))).bind fun u330 =>
                          (some (gsF u330 42 21 ((u330.1 42 21) + (1 : Int32)))).bind fun u338 =>
                          M_Model_line_b341 u338)
                        else
                          (M_Model_line_b341 q307.2))))
                  else
                    ((M_Model_note y21.1 (0 : Int32) q264.2).bind fun q273 =>
                    M_Model_line_b351 q273))
                else
                  ((M_Model_note y21.1 (1 : Int32) q238.2).bind fun q247 =>
                  M_Model_line_b351 q247))
              else
                ((M_Model_gene y21.1 q212.2).bind fun q220 =>
                M_Model_line_b351 q220))
            else
              ((M_Model_termNext q168.2).bind fun q175 =>
              (M_Model_ends y21.1 (1 : Int32) q175.2).bind fun q183 =>
              if q183.1 = (0 : Int32) then
                (M_Model_line_b197 q183.2)
              else
                (gc (gIn q175.1 (gLen 49)) <| (some (gsA q183.2 49 (gIx q175.1) (1 : Int32))).bind fun u196 =>
                M_Model_line_b197 u196)))
          else
            (M_Model_line_b149 y21.1 q143.2))
        else
          (M_Model_line_b149 y21.1 q125.2))
      else
        ((M_Model_alias y21.1 q100.2).bind fun q108 =>
        M_Model_line_b351 q108))
    else
      ((M_Model_newTerm y21.1 q73.2).bind fun q81 =>
      M_Model_line_b351 q81))
set_option maxHeartbeats 4000000 in
set_option maxRecDepth 100000 in
theorem t_Model_line (C : gX "TermDeskModel" prog_13_method_38_code 5 none 5 114 R cells slots cy D ρ A p s m args meth c) {x1 : Int32} {x2 : Int32} {u : gSt} {z : gSt} (hM : M_Model_line x1 x2 u = some z) (hR : gRtV p l e R s m args below meth c Q H0 cells slots cy D ρ A prog_13_method_38_code z) : gAt p l e R s m args below meth c Q H0 cells slots cy D ρ A 5 0 [(0, .ref (ρ 42)), (1, .int x1), (2, .int x2)] [] u := by
  intro ls H locs hl hP hS
  have hx := C.1
  have hb := C.2.1
  unfold M_Model_line at hM
  refine lv_iload_n hx hb d_Model_line_0 rfl (lv_at hl 1 rfl) ?_
  refine lv_iload_n hx hb d_Model_line_1 rfl (lv_at hl 2 rfl) ?_
  refine lv_icmp_ne (tgt := 6) hx hb d_Model_line_2 (by decide) (fun hc2 => ?_) (fun hc2 => ?_)
  · replace hM := gi_f hc2 hM
    refine lv_aload_n hx hb d_Model_line_6 rfl (lv_at hl 0 rfl) ?_
    refine lv_iload_n hx hb d_Model_line_7 rfl (lv_at hl 2 rfl) ?_
    obtain ⟨u8, e8, hM⟩ := gb_some hM
    refine g_putI C hP hS gl_DeskModel_143 rfl rfl gq_8_24 d_Model_line_8 (fun H locs hP hS => ?_)
    rw [Option.some.inj e8] at hP
    refine lv_aload_n hx hb d_Model_line_11 rfl (lv_at hl 0 rfl) ?_
    refine lv_iload_n hx hb d_Model_line_12 rfl (lv_at hl 1 rfl) ?_
    obtain ⟨u13, e13, hM⟩ := gb_some hM
    refine g_putI C hP hS gl_DeskModel_150 rfl rfl gq_8_22 d_Model_line_13 (fun H locs hP hS => ?_)
    rw [Option.some.inj e13] at hP
    refine lv_aload_n hx hb d_Model_line_16 rfl (lv_at hl 0 rfl) ?_
    refine lv_iload_n hx hb d_Model_line_17 rfl (lv_at hl 1 rfl) ?_
    obtain ⟨u18, e18, hM⟩ := gb_some hM
    refine g_putI C hP hS gl_DeskModel_140 rfl rfl gq_8_23 d_Model_line_18 (fun H locs hP hS => ?_)
    rw [Option.some.inj e18] at hP
    obtain ⟨y21, hL21, hM⟩ := gb_some hM
    refine t_Model_line_L21 C hL21 (fun y21_0 hy => ?_) ls H locs (lv_sub hl [0, 1, 2] rfl) hP hS
    · subst hy
      intro ls H locs hl hP hS
      refine lv_aload_n hx hb d_Model_line_56 rfl (lv_at hl 0 rfl) ?_
      refine g_getI C hP gl_DeskModel_140 rfl rfl d_Model_line_57 ?_
      refine lv_istore_n (lv' := [(3, .int (y21.2.1 42 23)), (0, .ref (ρ 42)), (1, .int y21.1)]) hx hb d_Model_line_60 rfl hl (by decide) rfl (fun ls hl => ?_)
      refine lv_aload_n hx hb d_Model_line_61 rfl (lv_at hl 1 rfl) ?_
      refine lv_iload_n hx hb d_Model_line_62 rfl (lv_at hl 2 rfl) ?_
      refine lv_iload_n hx hb d_Model_line_63 rfl (lv_at hl 0 rfl) ?_
      refine lv_bipush (v := (116 : Int32)) hx hb d_Model_line_64 (by decide) ?_
      refine lv_bipush (v := (101 : Int32)) hx hb d_Model_line_66 (by decide) ?_
      refine lv_bipush (v := (114 : Int32)) hx hb d_Model_line_68 (by decide) ?_
      refine lv_bipush (v := (109 : Int32)) hx hb d_Model_line_70 (by decide) ?_
      refine lv_iconst (v := (0 : Int32)) hx hb d_Model_line_72 (by decide) ?_
      obtain ⟨q73, hq73, hM⟩ := gb_some hM
      refine g_backI (g_runV (As := [.int y21.1, .int (y21.2.1 42 23), .int (116 : Int32), .int (101 : Int32), .int (114 : Int32), .int (109 : Int32), .int (0 : Int32)]) C hP (c_Model_begins C.2.2.2.2.2.2.2.2.1 hq73) gi_Model_begins gm_Model_210 rfl rfl (by decide) (by decide) hl.1 rfl (Nat.le_of_ble_eq_true rfl) d_Model_line_73) hS (fun H locs hP hS => ?_)
      refine lv_if_eq (tgt := 87) hx hb d_Model_line_76 (by decide) (fun hc76 => ?_) (fun hc76 => ?_)
      · replace hM := gi_t hc76 hM
        refine lv_aload_n hx hb d_Model_line_87 rfl (lv_at hl 1 rfl) ?_
        refine lv_iload_n hx hb d_Model_line_88 rfl (lv_at hl 2 rfl) ?_
        refine lv_iload_n hx hb d_Model_line_89 rfl (lv_at hl 0 rfl) ?_
        refine lv_bipush (v := (97 : Int32)) hx hb d_Model_line_90 (by decide) ?_
        refine lv_bipush (v := (108 : Int32)) hx hb d_Model_line_92 (by decide) ?_
        refine lv_bipush (v := (105 : Int32)) hx hb d_Model_line_94 (by decide) ?_
        refine lv_bipush (v := (97 : Int32)) hx hb d_Model_line_96 (by decide) ?_
        refine lv_bipush (v := (115 : Int32)) hx hb d_Model_line_98 (by decide) ?_
        obtain ⟨q100, hq100, hM⟩ := gb_some hM
        refine g_backI (g_runV (As := [.int y21.1, .int (y21.2.1 42 23), .int (97 : Int32), .int (108 : Int32), .int (105 : Int32), .int (97 : Int32), .int (115 : Int32)]) C hP (c_Model_begins C.2.2.2.2.2.2.2.2.1 hq100) gi_Model_begins gm_Model_210 rfl rfl (by decide) (by decide) hl.1 rfl (Nat.le_of_ble_eq_true rfl) d_Model_line_100) hS (fun H locs hP hS => ?_)
        refine lv_if_eq (tgt := 114) hx hb d_Model_line_103 (by decide) (fun hc103 => ?_) (fun hc103 => ?_)
        · replace hM := gi_t hc103 hM
          refine lv_aload_n hx hb d_Model_line_114 rfl (lv_at hl 1 rfl) ?_
          refine lv_iload_n hx hb d_Model_line_115 rfl (lv_at hl 2 rfl) ?_
          refine lv_iload_n hx hb d_Model_line_116 rfl (lv_at hl 0 rfl) ?_
          refine lv_bipush (v := (105 : Int32)) hx hb d_Model_line_117 (by decide) ?_
          refine lv_bipush (v := (115 : Int32)) hx hb d_Model_line_119 (by decide) ?_
          refine lv_bipush (v := (97 : Int32)) hx hb d_Model_line_121 (by decide) ?_
          refine lv_iconst (v := (0 : Int32)) hx hb d_Model_line_123 (by decide) ?_
          refine lv_iconst (v := (0 : Int32)) hx hb d_Model_line_124 (by decide) ?_
          obtain ⟨q125, hq125, hM⟩ := gb_some hM
          refine g_backI (g_runV (As := [.int y21.1, .int (y21.2.1 42 23), .int (105 : Int32), .int (115 : Int32), .int (97 : Int32), .int (0 : Int32), .int (0 : Int32)]) C hP (c_Model_begins C.2.2.2.2.2.2.2.2.1 hq125) gi_Model_begins gm_Model_210 rfl rfl (by decide) (by decide) hl.1 rfl (Nat.le_of_ble_eq_true rfl) d_Model_line_125) hS (fun H locs hP hS => ?_)
          refine lv_if_ne (tgt := 149) hx hb d_Model_line_128 (by decide) (fun hc128 => ?_) (fun hc128 => ?_)
          · replace hM := gi_f hc128 hM
            exact t_Model_line_b149 C hM hR ls H locs (lv_sub hl [1, 2] rfl) hP hS
          · replace hM := gi_t hc128 hM
            refine lv_aload_n hx hb d_Model_line_131 rfl (lv_at hl 1 rfl) ?_
            refine lv_iload_n hx hb d_Model_line_132 rfl (lv_at hl 2 rfl) ?_
            refine lv_iload_n hx hb d_Model_line_133 rfl (lv_at hl 0 rfl) ?_
            refine lv_bipush (v := (112 : Int32)) hx hb d_Model_line_134 (by decide) ?_
            refine lv_bipush (v := (97 : Int32)) hx hb d_Model_line_136 (by decide) ?_
            refine lv_bipush (v := (114 : Int32)) hx hb d_Model_line_138 (by decide) ?_
            refine lv_bipush (v := (116 : Int32)) hx hb d_Model_line_140 (by decide) ?_
            refine lv_iconst (v := (0 : Int32)) hx hb d_Model_line_142 (by decide) ?_
            obtain ⟨q143, hq143, hM⟩ := gb_some hM
            refine g_backI (g_runV (As := [.int y21.1, .int (y21.2.1 42 23), .int (112 : Int32), .int (97 : Int32), .int (114 : Int32), .int (116 : Int32), .int (0 : Int32)]) C hP (c_Model_begins C.2.2.2.2.2.2.2.2.1 hq143) gi_Model_begins gm_Model_210 rfl rfl (by decide) (by decide) hl.1 rfl (Nat.le_of_ble_eq_true rfl) d_Model_line_143) hS (fun H locs hP hS => ?_)
            refine lv_if_eq (tgt := 157) hx hb d_Model_line_146 (by decide) (fun hc146 => ?_) (fun hc146 => ?_)
            · replace hM := gi_t hc146 hM
              refine lv_aload_n hx hb d_Model_line_157 rfl (lv_at hl 1 rfl) ?_
              refine lv_iload_n hx hb d_Model_line_158 rfl (lv_at hl 2 rfl) ?_
              refine lv_iload_n hx hb d_Model_line_159 rfl (lv_at hl 0 rfl) ?_
              refine lv_bipush (v := (111 : Int32)) hx hb d_Model_line_160 (by decide) ?_
              refine lv_bipush (v := (108 : Int32)) hx hb d_Model_line_162 (by decide) ?_
              refine lv_bipush (v := (100 : Int32)) hx hb d_Model_line_164 (by decide) ?_
              refine lv_iconst (v := (0 : Int32)) hx hb d_Model_line_166 (by decide) ?_
              refine lv_iconst (v := (0 : Int32)) hx hb d_Model_line_167 (by decide) ?_
              obtain ⟨q168, hq168, hM⟩ := gb_some hM
              refine g_backI (g_runV (As := [.int y21.1, .int (y21.2.1 42 23), .int (111 : Int32), .int (108 : Int32), .int (100 : Int32), .int (0 : Int32), .int (0 : Int32)]) C hP (c_Model_begins C.2.2.2.2.2.2.2.2.1 hq168) gi_Model_begins gm_Model_210 rfl rfl (by decide) (by decide) hl.1 rfl (Nat.le_of_ble_eq_true rfl) d_Model_line_168) hS (fun H locs hP hS => ?_)
              refine lv_if_eq (tgt := 200) hx hb d_Model_line_171 (by decide) (fun hc171 => ?_) (fun hc171 => ?_)
              · replace hM := gi_t hc171 hM
                refine lv_aload_n hx hb d_Model_line_200 rfl (lv_at hl 1 rfl) ?_
                refine lv_iload_n hx hb d_Model_line_201 rfl (lv_at hl 2 rfl) ?_
                refine lv_iload_n hx hb d_Model_line_202 rfl (lv_at hl 0 rfl) ?_
                refine lv_bipush (v := (103 : Int32)) hx hb d_Model_line_203 (by decide) ?_
                refine lv_bipush (v := (101 : Int32)) hx hb d_Model_line_205 (by decide) ?_
                refine lv_bipush (v := (110 : Int32)) hx hb d_Model_line_207 (by decide) ?_
                refine lv_bipush (v := (101 : Int32)) hx hb d_Model_line_209 (by decide) ?_
                refine lv_iconst (v := (0 : Int32)) hx hb d_Model_line_211 (by decide) ?_
                obtain ⟨q212, hq212, hM⟩ := gb_some hM
                refine g_backI (g_runV (As := [.int y21.1, .int (y21.2.1 42 23), .int (103 : Int32), .int (101 : Int32), .int (110 : Int32), .int (101 : Int32), .int (0 : Int32)]) C hP (c_Model_begins C.2.2.2.2.2.2.2.2.1 hq212) gi_Model_begins gm_Model_210 rfl rfl (by decide) (by decide) hl.1 rfl (Nat.le_of_ble_eq_true rfl) d_Model_line_212) hS (fun H locs hP hS => ?_)
                refine lv_if_eq (tgt := 226) hx hb d_Model_line_215 (by decide) (fun hc215 => ?_) (fun hc215 => ?_)
                · replace hM := gi_t hc215 hM
                  refine lv_aload_n hx hb d_Model_line_226 rfl (lv_at hl 1 rfl) ?_
                  refine lv_iload_n hx hb d_Model_line_227 rfl (lv_at hl 2 rfl) ?_
                  refine lv_iload_n hx hb d_Model_line_228 rfl (lv_at hl 0 rfl) ?_
                  refine lv_bipush (v := (110 : Int32)) hx hb d_Model_line_229 (by decide) ?_
                  refine lv_bipush (v := (111 : Int32)) hx hb d_Model_line_231 (by decide) ?_
                  refine lv_bipush (v := (116 : Int32)) hx hb d_Model_line_233 (by decide) ?_
                  refine lv_bipush (v := (101 : Int32)) hx hb d_Model_line_235 (by decide) ?_
                  refine lv_iconst (v := (0 : Int32)) hx hb d_Model_line_237 (by decide) ?_
                  obtain ⟨q238, hq238, hM⟩ := gb_some hM
                  refine g_backI (g_runV (As := [.int y21.1, .int (y21.2.1 42 23), .int (110 : Int32), .int (111 : Int32), .int (116 : Int32), .int (101 : Int32), .int (0 : Int32)]) C hP (c_Model_begins C.2.2.2.2.2.2.2.2.1 hq238) gi_Model_begins gm_Model_210 rfl rfl (by decide) (by decide) hl.1 rfl (Nat.le_of_ble_eq_true rfl) d_Model_line_238) hS (fun H locs hP hS => ?_)
                  refine lv_if_eq (tgt := 253) hx hb d_Model_line_241 (by decide) (fun hc241 => ?_) (fun hc241 => ?_)
                  · replace hM := gi_t hc241 hM
                    refine lv_aload_n hx hb d_Model_line_253 rfl (lv_at hl 1 rfl) ?_
                    refine lv_iload_n hx hb d_Model_line_254 rfl (lv_at hl 2 rfl) ?_
                    refine lv_iload_n hx hb d_Model_line_255 rfl (lv_at hl 0 rfl) ?_
                    refine lv_bipush (v := (110 : Int32)) hx hb d_Model_line_256 (by decide) ?_
                    refine lv_bipush (v := (111 : Int32)) hx hb d_Model_line_258 (by decide) ?_
                    refine lv_bipush (v := (116 : Int32)) hx hb d_Model_line_260 (by decide) ?_
                    refine lv_iconst (v := (0 : Int32)) hx hb d_Model_line_262 (by decide) ?_
                    refine lv_iconst (v := (0 : Int32)) hx hb d_Model_line_263 (by decide) ?_
                    obtain ⟨q264, hq264, hM⟩ := gb_some hM
                    refine g_backI (g_runV (As := [.int y21.1, .int (y21.2.1 42 23), .int (110 : Int32), .int (111 : Int32), .int (116 : Int32), .int (0 : Int32), .int (0 : Int32)]) C hP (c_Model_begins C.2.2.2.2.2.2.2.2.1 hq264) gi_Model_begins gm_Model_210 rfl rfl (by decide) (by decide) hl.1 rfl (Nat.le_of_ble_eq_true rfl) d_Model_line_264) hS (fun H locs hP hS => ?_)
                    refine lv_if_eq (tgt := 279) hx hb d_Model_line_267 (by decide) (fun hc267 => ?_) (fun hc267 => ?_)
                    · replace hM := gi_t hc267 hM
                      refine lv_aload_n hx hb d_Model_line_279 rfl (lv_at hl 1 rfl) ?_
                      refine lv_iload_n hx hb d_Model_line_280 rfl (lv_at hl 2 rfl) ?_
                      refine lv_iload_n hx hb d_Model_line_281 rfl (lv_at hl 0 rfl) ?_
                      refine lv_bipush (v := (115 : Int32)) hx hb d_Model_line_282 (by decide) ?_
                      refine lv_bipush (v := (116 : Int32)) hx hb d_Model_line_284 (by decide) ?_
                      refine lv_bipush (v := (117 : Int32)) hx hb d_Model_line_286 (by decide) ?_
                      refine lv_bipush (v := (100 : Int32)) hx hb d_Model_line_288 (by decide) ?_
                      refine lv_bipush (v := (121 : Int32)) hx hb d_Model_line_290 (by decide) ?_
                      obtain ⟨q292, hq292, hM⟩ := gb_some hM
                      refine g_backI (g_runV (As := [.int y21.1, .int (y21.2.1 42 23), .int (115 : Int32), .int (116 : Int32), .int (117 : Int32), .int (100 : Int32), .int (121 : Int32)]) C hP (c_Model_begins C.2.2.2.2.2.2.2.2.1 hq292) gi_Model_begins gm_Model_210 rfl rfl (by decide) (by decide) hl.1 rfl (Nat.le_of_ble_eq_true rfl) d_Model_line_292) hS (fun H locs hP hS => ?_)
                      refine lv_if_eq (tgt := 344) hx hb d_Model_line_295 (by decide) (fun hc295 => ?_) (fun hc295 => ?_)
                      · replace hM := gi_t hc295 hM
                        refine lv_aload_n hx hb d_Model_line_344 rfl (lv_at hl 1 rfl) ?_
                        refine lv_iconst (v := (1 : Int32)) hx hb d_Model_line_345 (by decide) ?_
                        refine lv_iload_n hx hb d_Model_line_346 rfl (lv_at hl 2 rfl) ?_
                        obtain ⟨q347, hq347, hM⟩ := gb_some hM
                        refine g_backI (g_runV (As := [.int (1 : Int32), .int y21.1]) C hP (c_Model_stop C.2.2.2.2.2.2.2.2.1 hq347) gi_Model_stop gm_Model_146 rfl rfl (by decide) (by decide) hl.1 rfl (Nat.le_of_ble_eq_true rfl) d_Model_line_347) hS (fun H locs hP hS => ?_)
                        refine lv_pop hx hb d_Model_line_350 rfl ?_
                        exact t_Model_line_b351 C hM hR ls H locs (lv_sub hl [] rfl) hP hS
                      · replace hM := gi_f hc295 hM
                        refine lv_aload_n hx hb d_Model_line_298 rfl (lv_at hl 1 rfl) ?_
                        obtain ⟨q299, hq299, hM⟩ := gb_some hM
                        refine g_backI (g_runV (As := []) C hP (c_Model_geneNext C.2.2.2.2.2.2.2.2.1 hq299) gi_Model_geneNext gm_Model_204 rfl rfl (by decide) (by decide) hl.1 rfl (Nat.le_of_ble_eq_true rfl) d_Model_line_299) hS (fun H locs hP hS => ?_)
                        refine lv_istore (lv' := [(4, .int q299.1), (3, .int (y21.2.1 42 23)), (0, .ref (ρ 42)), (1, .int y21.1)]) hx hb d_Model_line_302 hl (by decide) rfl (fun ls hl => ?_)
                        refine lv_aload_n hx hb d_Model_line_304 rfl (lv_at hl 2 rfl) ?_
                        refine lv_iload_n hx hb d_Model_line_305 rfl (lv_at hl 3 rfl) ?_
                        refine lv_iconst (v := (1 : Int32)) hx hb d_Model_line_306 (by decide) ?_
                        obtain ⟨q307, hq307, hM⟩ := gb_some hM
                        refine g_backI (g_runV (As := [.int y21.1, .int (1 : Int32)]) C hP (c_Model_ends C.2.2.2.2.2.2.2.2.1 hq307) gi_Model_ends gm_Model_187 rfl rfl (by decide) (by decide) hl.1 rfl (Nat.le_of_ble_eq_true rfl) d_Model_line_307) hS (fun H locs hP hS => ?_)
                        refine lv_if_eq (tgt := 341) hx hb d_Model_line_310 (by decide) (fun hc310 => ?_) (fun hc310 => ?_)
                        · replace hM := gi_t hc310 hM
                          exact t_Model_line_b341 C hM hR ls H locs (lv_sub hl [] rfl) hP hS
                        · replace hM := gi_f hc310 hM
                          refine lv_aload_n hx hb d_Model_line_313 rfl (lv_at hl 2 rfl) ?_
                          refine g_getR (b := 54) C hP gl_DeskModel_50 rfl rfl rfl d_Model_line_314 ?_
                          refine lv_iload hx hb d_Model_line_317 (lv_at hl 0 rfl) ?_
                          obtain ⟨hi319, hM⟩ := gc_some hM
                          refine g_zald C hP rfl hi319 d_Model_line_319 ?_
                          refine lv_if_ne (tgt := 341) hx hb d_Model_line_320 (by decide) (fun hc320 => ?_) (fun hc320 => ?_)
                          · replace hM := gi_f hc320 hM
                            exact t_Model_line_b341 C hM hR ls H locs (lv_sub hl [] rfl) hP hS
                          · replace hM := gi_t hc320 hM
                            refine lv_aload_n hx hb d_Model_line_323 rfl (lv_at hl 2 rfl) ?_
                            refine g_getR (b := 54) C hP gl_DeskModel_50 rfl rfl rfl d_Model_line_324 ?_
                            refine lv_iload hx hb d_Model_line_327 (lv_at hl 0 rfl) ?_
                            refine lv_iconst (v := (1 : Int32)) hx hb d_Model_line_329 (by decide) ?_
                            obtain ⟨hi330, hM⟩ := gc_some hM
                            obtain ⟨u330, e330, hM⟩ := gb_some hM
                            refine g_zast C hP hS rfl hi330 rfl d_Model_line_330 (fun H locs hP hS => ?_)
                            rw [Option.some.inj e330] at hP
                            refine lv_aload_n hx hb d_Model_line_331 rfl (lv_at hl 2 rfl) ?_
                            refine lv_dup hx hb d_Model_line_332 rfl ?_
                            refine g_getI C hP gl_DeskModel_230 rfl rfl d_Model_line_333 ?_
                            refine lv_iconst (v := (1 : Int32)) hx hb d_Model_line_336 (by decide) ?_
                            refine lv_iadd hx hb d_Model_line_337 ?_
                            obtain ⟨u338, e338, hM⟩ := gb_some hM
                            refine g_putI C hP hS gl_DeskModel_230 rfl rfl gq_8_21 d_Model_line_338 (fun H locs hP hS => ?_)
                            rw [Option.some.inj e338] at hP
                            exact t_Model_line_b341 C hM hR ls H locs (lv_sub hl [] rfl) hP hS
                    · replace hM := gi_f hc267 hM
                      refine lv_aload_n hx hb d_Model_line_270 rfl (lv_at hl 1 rfl) ?_
                      refine lv_iload_n hx hb d_Model_line_271 rfl (lv_at hl 2 rfl) ?_
                      refine lv_iconst (v := (0 : Int32)) hx hb d_Model_line_272 (by decide) ?_
                      obtain ⟨q273, hq273, hM⟩ := gb_some hM
                      refine g_backV (g_runV (As := [.int y21.1, .int (0 : Int32)]) C hP (c_Model_note C.2.2.2.2.2.2.2.2.1 hq273) gi_Model_note gm_Model_226 rfl rfl (by decide) (by decide) hl.1 rfl (Nat.le_of_ble_eq_true rfl) d_Model_line_273) hS (fun H locs hP hS => ?_)
                      refine lv_goto (tgt := 351) hx hb d_Model_line_276 (by decide) ?_
                      exact t_Model_line_b351 C hM hR ls H locs (lv_sub hl [] rfl) hP hS
                  · replace hM := gi_f hc241 hM
                    refine lv_aload_n hx hb d_Model_line_244 rfl (lv_at hl 1 rfl) ?_
                    refine lv_iload_n hx hb d_Model_line_245 rfl (lv_at hl 2 rfl) ?_
                    refine lv_iconst (v := (1 : Int32)) hx hb d_Model_line_246 (by decide) ?_
                    obtain ⟨q247, hq247, hM⟩ := gb_some hM
                    refine g_backV (g_runV (As := [.int y21.1, .int (1 : Int32)]) C hP (c_Model_note C.2.2.2.2.2.2.2.2.1 hq247) gi_Model_note gm_Model_226 rfl rfl (by decide) (by decide) hl.1 rfl (Nat.le_of_ble_eq_true rfl) d_Model_line_247) hS (fun H locs hP hS => ?_)
                    refine lv_goto (tgt := 351) hx hb d_Model_line_250 (by decide) ?_
                    exact t_Model_line_b351 C hM hR ls H locs (lv_sub hl [] rfl) hP hS
                · replace hM := gi_f hc215 hM
                  refine lv_aload_n hx hb d_Model_line_218 rfl (lv_at hl 1 rfl) ?_
                  refine lv_iload_n hx hb d_Model_line_219 rfl (lv_at hl 2 rfl) ?_
                  obtain ⟨q220, hq220, hM⟩ := gb_some hM
                  refine g_backV (g_runV (As := [.int y21.1]) C hP (c_Model_gene C.2.2.2.2.2.2.2.2.1 hq220) gi_Model_gene gm_Model_223 rfl rfl (by decide) (by decide) hl.1 rfl (Nat.le_of_ble_eq_true rfl) d_Model_line_220) hS (fun H locs hP hS => ?_)
                  refine lv_goto (tgt := 351) hx hb d_Model_line_223 (by decide) ?_
                  exact t_Model_line_b351 C hM hR ls H locs (lv_sub hl [] rfl) hP hS
              · replace hM := gi_f hc171 hM
                refine lv_aload_n hx hb d_Model_line_174 rfl (lv_at hl 1 rfl) ?_
                obtain ⟨q175, hq175, hM⟩ := gb_some hM
                refine g_backI (g_runV (As := []) C hP (c_Model_termNext C.2.2.2.2.2.2.2.2.1 hq175) gi_Model_termNext gm_Model_178 rfl rfl (by decide) (by decide) hl.1 rfl (Nat.le_of_ble_eq_true rfl) d_Model_line_175) hS (fun H locs hP hS => ?_)
                refine lv_istore (lv' := [(4, .int q175.1), (3, .int (y21.2.1 42 23)), (0, .ref (ρ 42)), (1, .int y21.1)]) hx hb d_Model_line_178 hl (by decide) rfl (fun ls hl => ?_)
                refine lv_aload_n hx hb d_Model_line_180 rfl (lv_at hl 2 rfl) ?_
                refine lv_iload_n hx hb d_Model_line_181 rfl (lv_at hl 3 rfl) ?_
                refine lv_iconst (v := (1 : Int32)) hx hb d_Model_line_182 (by decide) ?_
                obtain ⟨q183, hq183, hM⟩ := gb_some hM
                refine g_backI (g_runV (As := [.int y21.1, .int (1 : Int32)]) C hP (c_Model_ends C.2.2.2.2.2.2.2.2.1 hq183) gi_Model_ends gm_Model_187 rfl rfl (by decide) (by decide) hl.1 rfl (Nat.le_of_ble_eq_true rfl) d_Model_line_183) hS (fun H locs hP hS => ?_)
                refine lv_if_eq (tgt := 197) hx hb d_Model_line_186 (by decide) (fun hc186 => ?_) (fun hc186 => ?_)
                · replace hM := gi_t hc186 hM
                  exact t_Model_line_b197 C hM hR ls H locs (lv_sub hl [] rfl) hP hS
                · replace hM := gi_f hc186 hM
                  refine lv_aload_n hx hb d_Model_line_189 rfl (lv_at hl 2 rfl) ?_
                  refine g_getR (b := 49) C hP gl_DeskModel_34 rfl rfl rfl d_Model_line_190 ?_
                  refine lv_iload hx hb d_Model_line_193 (lv_at hl 0 rfl) ?_
                  refine lv_iconst (v := (1 : Int32)) hx hb d_Model_line_195 (by decide) ?_
                  obtain ⟨hi196, hM⟩ := gc_some hM
                  obtain ⟨u196, e196, hM⟩ := gb_some hM
                  refine g_iast C hP hS rfl hi196 d_Model_line_196 (fun H locs hP hS => ?_)
                  rw [Option.some.inj e196] at hP
                  exact t_Model_line_b197 C hM hR ls H locs (lv_sub hl [] rfl) hP hS
            · replace hM := gi_f hc146 hM
              exact t_Model_line_b149 C hM hR ls H locs (lv_sub hl [1, 2] rfl) hP hS
        · replace hM := gi_f hc103 hM
          refine lv_aload_n hx hb d_Model_line_106 rfl (lv_at hl 1 rfl) ?_
          refine lv_iload_n hx hb d_Model_line_107 rfl (lv_at hl 2 rfl) ?_
          obtain ⟨q108, hq108, hM⟩ := gb_some hM
          refine g_backV (g_runV (As := [.int y21.1]) C hP (c_Model_alias C.2.2.2.2.2.2.2.2.1 hq108) gi_Model_alias gm_Model_217 rfl rfl (by decide) (by decide) hl.1 rfl (Nat.le_of_ble_eq_true rfl) d_Model_line_108) hS (fun H locs hP hS => ?_)
          refine lv_goto (tgt := 351) hx hb d_Model_line_111 (by decide) ?_
          exact t_Model_line_b351 C hM hR ls H locs (lv_sub hl [] rfl) hP hS
      · replace hM := gi_f hc76 hM
        refine lv_aload_n hx hb d_Model_line_79 rfl (lv_at hl 1 rfl) ?_
        refine lv_iload_n hx hb d_Model_line_80 rfl (lv_at hl 2 rfl) ?_
        obtain ⟨q81, hq81, hM⟩ := gb_some hM
        refine g_backV (g_runV (As := [.int y21.1]) C hP (c_Model_newTerm C.2.2.2.2.2.2.2.2.1 hq81) gi_Model_newTerm gm_Model_214 rfl rfl (by decide) (by decide) hl.1 rfl (Nat.le_of_ble_eq_true rfl) d_Model_line_81) hS (fun H locs hP hS => ?_)
        refine lv_goto (tgt := 351) hx hb d_Model_line_84 (by decide) ?_
        exact t_Model_line_b351 C hM hR ls H locs (lv_sub hl [] rfl) hP hS
  · replace hM := gi_t hc2 hM
    obtain rfl := Option.some.inj hM
    exact hR _ ls H locs d_Model_line_5 hP hS
theorem c_Model_line {l : Launch} {cy : Nat → ClassId} {D : va_G} {ρ : Nat → Nat} {A : Nat → Prop} (hD : gD ρ A) {x1 : Int32} {x2 : Int32} {u : gSt} {z : gSt} (hM : M_Model_line x1 x2 u = some z) : gCtV l y_Model_line prog_13_method_38_code 5 none 5 114 cy D ρ A [.ref (ρ 42), .int x1, .int x2] u z :=
  g_met (by decide) hD (Nat.le_of_ble_eq_true rfl) (fun p e s m below meth c ls X hl hP => t_Model_line X hM (fun pc ls H locs hd hP hS => g_vret X hP hS hd) ls _ [] hl hP va_S.rf)
end
section
variable {p : Program} {l : Launch} {e : Env} {R : Room} {s : State} {m : MethodId} {args : Array Value} {below : List Frame} {meth : Method} {c : Code} {Q : State → Prop} {H0 : Heap} {cells slots : Nat} {cy : Nat → ClassId} {D : va_G} {ρ : Nat → Nat} {A : Nat → Prop}
def y_Model_run : MethodName := ⟨"TermDeskModel", "run", "()I"⟩
theorem gi_Model_run : gMi y_Model_run prog_13_method_39_code 4 (some .int) 0 8 := ⟨(gWs_at 1174 (by decide +kernel) (by decide +kernel)), (gWs_at 1172 (by decide +kernel) (by decide +kernel)), (gWs_at 1173 (by decide +kernel) (by decide +kernel)), (gWs_at 125 (by decide +kernel) (by decide +kernel)), ⟨by decide +kernel, by decide +kernel, by decide +kernel⟩, _, _, rfl⟩
theorem gm_Law_75 : gMk "TermDeskLaw" 75 y_Model_run := Or.inl (gWs_at 1171 (by decide +kernel) (by decide +kernel))
theorem d_Model_run_0 : decode prog_13_method_39_code 0 = .ok (.aload_n 0, 1) := by decide +kernel
theorem d_Model_run_1 : decode prog_13_method_39_code 1 = .ok (.iconst 0, 1) := by decide +kernel
theorem d_Model_run_2 : decode prog_13_method_39_code 2 = .ok (.putfield 86, 3) := by decide +kernel
theorem d_Model_run_5 : decode prog_13_method_39_code 5 = .ok (.aload_n 0, 1) := by decide +kernel
theorem d_Model_run_6 : decode prog_13_method_39_code 6 = .ok (.iconst 0, 1) := by decide +kernel
theorem d_Model_run_7 : decode prog_13_method_39_code 7 = .ok (.putfield 137, 3) := by decide +kernel
theorem d_Model_run_10 : decode prog_13_method_39_code 10 = .ok (.aload_n 0, 1) := by decide +kernel
theorem d_Model_run_11 : decode prog_13_method_39_code 11 = .ok (.iconst (-1), 1) := by decide +kernel
theorem d_Model_run_12 : decode prog_13_method_39_code 12 = .ok (.putfield 14, 3) := by decide +kernel
theorem d_Model_run_15 : decode prog_13_method_39_code 15 = .ok (.iconst 0, 1) := by decide +kernel
theorem d_Model_run_16 : decode prog_13_method_39_code 16 = .ok (.istore_n 1, 1) := by decide +kernel
theorem d_Model_run_17 : decode prog_13_method_39_code 17 = .ok (.iconst 0, 1) := by decide +kernel
theorem d_Model_run_18 : decode prog_13_method_39_code 18 = .ok (.istore_n 2, 1) := by decide +kernel
theorem d_Model_run_19 : decode prog_13_method_39_code 19 = .ok (.iload_n 2, 1) := by decide +kernel
theorem d_Model_run_20 : decode prog_13_method_39_code 20 = .ok (.aload_n 0, 1) := by decide +kernel
theorem d_Model_run_21 : decode prog_13_method_39_code 21 = .ok (.getfield 130, 3) := by decide +kernel
theorem d_Model_run_24 : decode prog_13_method_39_code 24 = .ok (.if_icmp .ge 65, 3) := by decide +kernel
theorem d_Model_run_27 : decode prog_13_method_39_code 27 = .ok (.aload_n 0, 1) := by decide +kernel
theorem d_Model_run_28 : decode prog_13_method_39_code 28 = .ok (.getfield 137, 3) := by decide +kernel
theorem d_Model_run_31 : decode prog_13_method_39_code 31 = .ok (.ifCond .ne 58, 3) := by decide +kernel
theorem d_Model_run_34 : decode prog_13_method_39_code 34 = .ok (.iload_n 2, 1) := by decide +kernel
theorem d_Model_run_35 : decode prog_13_method_39_code 35 = .ok (.istore_n 3, 1) := by decide +kernel
theorem d_Model_run_36 : decode prog_13_method_39_code 36 = .ok (.iload_n 3, 1) := by decide +kernel
theorem d_Model_run_37 : decode prog_13_method_39_code 37 = .ok (.aload_n 0, 1) := by decide +kernel
theorem d_Model_run_38 : decode prog_13_method_39_code 38 = .ok (.getfield 130, 3) := by decide +kernel
theorem d_Model_run_41 : decode prog_13_method_39_code 41 = .ok (.if_icmp .ge 20, 3) := by decide +kernel
theorem d_Model_run_44 : decode prog_13_method_39_code 44 = .ok (.aload_n 0, 1) := by decide +kernel
theorem d_Model_run_45 : decode prog_13_method_39_code 45 = .ok (.getfield 8, 3) := by decide +kernel
theorem d_Model_run_48 : decode prog_13_method_39_code 48 = .ok (.iload_n 3, 1) := by decide +kernel
theorem d_Model_run_49 : decode prog_13_method_39_code 49 = .ok (.baload, 1) := by decide +kernel
theorem d_Model_run_50 : decode prog_13_method_39_code 50 = .ok (.bipush 10, 2) := by decide +kernel
theorem d_Model_run_52 : decode prog_13_method_39_code 52 = .ok (.if_icmp .eq 9, 3) := by decide +kernel
theorem d_Model_run_55 : decode prog_13_method_39_code 55 = .ok (.iinc 3 1, 3) := by decide +kernel
theorem d_Model_run_58 : decode prog_13_method_39_code 58 = .ok (.goto (-22), 3) := by decide +kernel
theorem d_Model_run_61 : decode prog_13_method_39_code 61 = .ok (.aload_n 0, 1) := by decide +kernel
theorem d_Model_run_62 : decode prog_13_method_39_code 62 = .ok (.iload_n 2, 1) := by decide +kernel
theorem d_Model_run_63 : decode prog_13_method_39_code 63 = .ok (.iload_n 3, 1) := by decide +kernel
theorem d_Model_run_64 : decode prog_13_method_39_code 64 = .ok (.invokevirtual 233, 3) := by decide +kernel
theorem d_Model_run_67 : decode prog_13_method_39_code 67 = .ok (.iload_n 1, 1) := by decide +kernel
theorem d_Model_run_68 : decode prog_13_method_39_code 68 = .ok (.aload_n 0, 1) := by decide +kernel
theorem d_Model_run_69 : decode prog_13_method_39_code 69 = .ok (.getfield 137, 3) := by decide +kernel
theorem d_Model_run_72 : decode prog_13_method_39_code 72 = .ok (.ifCond .ne 7, 3) := by decide +kernel
theorem d_Model_run_75 : decode prog_13_method_39_code 75 = .ok (.iconst 1, 1) := by decide +kernel
theorem d_Model_run_76 : decode prog_13_method_39_code 76 = .ok (.goto 4, 3) := by decide +kernel
theorem d_Model_run_79 : decode prog_13_method_39_code 79 = .ok (.iconst 0, 1) := by decide +kernel
theorem d_Model_run_80 : decode prog_13_method_39_code 80 = .ok (.iadd, 1) := by decide +kernel
theorem d_Model_run_81 : decode prog_13_method_39_code 81 = .ok (.istore_n 1, 1) := by decide +kernel
theorem d_Model_run_82 : decode prog_13_method_39_code 82 = .ok (.iload_n 3, 1) := by decide +kernel
theorem d_Model_run_83 : decode prog_13_method_39_code 83 = .ok (.iconst 1, 1) := by decide +kernel
theorem d_Model_run_84 : decode prog_13_method_39_code 84 = .ok (.iadd, 1) := by decide +kernel
theorem d_Model_run_85 : decode prog_13_method_39_code 85 = .ok (.istore_n 2, 1) := by decide +kernel
theorem d_Model_run_86 : decode prog_13_method_39_code 86 = .ok (.goto (-67), 3) := by decide +kernel
theorem d_Model_run_89 : decode prog_13_method_39_code 89 = .ok (.aload_n 0, 1) := by decide +kernel
theorem d_Model_run_90 : decode prog_13_method_39_code 90 = .ok (.iconst 0, 1) := by decide +kernel
theorem d_Model_run_91 : decode prog_13_method_39_code 91 = .ok (.putfield 130, 3) := by decide +kernel
theorem d_Model_run_94 : decode prog_13_method_39_code 94 = .ok (.iload_n 1, 1) := by decide +kernel
theorem d_Model_run_95 : decode prog_13_method_39_code 95 = .ok (.ireturn, 1) := by decide +kernel
noncomputable def M_Model_run_b36 (x1 : Int32) (x2 : Int32) (x3 : Int32) (u : gSt) : Option ((Int32 × Int32 × Int32 × gSt) ⊕ ((Int32 × Int32 × Int32 × gSt))) :=
  if (u.1 42 1) ≤ x3 then
    (some (.inr (x1, x2, x3, u)))
  else
    (gc (gIn x3 (gLen 43)) <| if (u.2.2.1 43 (gIx x3)) = (10 : Int32) then
      (some (.inr (x1, x2, x3, u)))
    else
      (some (.inl (x1, x2, x3 + (1 : Int32), u))))
set_option maxHeartbeats 4000000 in
set_option maxRecDepth 100000 in
theorem t_Model_run_b36 (C : gX "TermDeskModel" prog_13_method_39_code 4 (some .int) 6 138 R cells slots cy D ρ A p s m args meth c) {x1 : Int32} {x2 : Int32} {x3 : Int32} {u : gSt} {z : (Int32 × Int32 × Int32 × gSt) ⊕ ((Int32 × Int32 × Int32 × gSt))} (hM : M_Model_run_b36 x1 x2 x3 u = some z) (hN : ∀ x1' x2' x3' u', z = .inl (x1', x2', x3', u') → gAt p l e R s m args below meth c Q H0 cells slots cy D ρ A 4 36 [(0, .ref (ρ 42)), (1, .int (x1')), (2, .int (x2')), (3, .int (x3'))] [] (u')) (hE0 : ∀ x1' x2' x3' u', z = .inr (x1', x2', x3', u') → gAt p l e R s m args below meth c Q H0 cells slots cy D ρ A 4 61 [(0, .ref (ρ 42)), (1, .int (x1')), (2, .int (x2')), (3, .int (x3'))] [] (u')) : gAt p l e R s m args below meth c Q H0 cells slots cy D ρ A 4 36 [(0, .ref (ρ 42)), (1, .int x1), (2, .int x2), (3, .int x3)] [] u := by
  intro ls H locs hl hP hS
  have hx := C.1
  have hb := C.2.1
  unfold M_Model_run_b36 at hM
  refine lv_iload_n hx hb d_Model_run_36 rfl (lv_at hl 3 rfl) ?_
  refine lv_aload_n hx hb d_Model_run_37 rfl (lv_at hl 0 rfl) ?_
  refine g_getI C hP gl_DeskModel_130 rfl rfl d_Model_run_38 ?_
  refine lv_icmp_ge (tgt := 61) hx hb d_Model_run_41 (by decide) (fun hc41 => ?_) (fun hc41 => ?_)
  · replace hM := gi_t hc41 hM
    exact hE0 _ _ _ _ (Option.some.inj hM).symm ls H locs (lv_sub hl [0, 1, 2, 3] rfl) hP hS
  · replace hM := gi_f hc41 hM
    refine lv_aload_n hx hb d_Model_run_44 rfl (lv_at hl 0 rfl) ?_
    refine g_getR (b := 43) C hP gl_DeskModel_8 rfl rfl rfl d_Model_run_45 ?_
    refine lv_iload_n hx hb d_Model_run_48 rfl (lv_at hl 3 rfl) ?_
    obtain ⟨hi49, hM⟩ := gc_some hM
    refine g_bald C hP rfl hi49 d_Model_run_49 ?_
    refine lv_bipush (v := (10 : Int32)) hx hb d_Model_run_50 (by decide) ?_
    refine lv_icmp_eq (tgt := 61) hx hb d_Model_run_52 (by decide) (fun hc52 => ?_) (fun hc52 => ?_)
    · replace hM := gi_t hc52 hM
      exact hE0 _ _ _ _ (Option.some.inj hM).symm ls H locs (lv_sub hl [0, 1, 2, 3] rfl) hP hS
    · replace hM := gi_f hc52 hM
      refine lv_iinc (k := 3) (v := x3 + (1 : Int32)) (lv' := [(3, .int (x3 + (1 : Int32))), (0, .ref (ρ 42)), (1, .int x1), (2, .int x2)]) hx hb d_Model_run_55 hl rfl (congrArg (fun z => x3 + z) (by decide)) (by decide) rfl (fun ls hl => ?_)
      refine lv_goto (tgt := 36) hx hb d_Model_run_58 (by decide) ?_
      exact hN _ _ _ _ (Option.some.inj hM).symm ls H locs (lv_sub hl [1, 2, 3, 0] rfl) hP hS
noncomputable def M_Model_run_L36 : (Int32 × Int32 × Int32 × gSt) → Option ((Int32 × Int32 × Int32 × gSt) ⊕ ((Int32 × Int32 × Int32 × gSt))) := fun x => M_Model_run_b36 x.1 x.2.1 x.2.2.1 x.2.2.2
theorem t_Model_run_L36 (C : gX "TermDeskModel" prog_13_method_39_code 4 (some .int) 6 138 R cells slots cy D ρ A p s m args meth c) {x1 : Int32} {x2 : Int32} {x3 : Int32} {u : gSt} {yy : (Int32 × Int32 × Int32 × gSt)} (hL : gLp M_Model_run_L36 (x1, x2, x3, u) = some yy) (hE0 : (∀ y', yy = y' → gAt p l e R s m args below meth c Q H0 cells slots cy D ρ A 4 61 [(0, .ref (ρ 42)), (1, .int (y'.1)), (2, .int (y'.2.1)), (3, .int (y'.2.2.1))] [] (y'.2.2.2))) : gAt p l e R s m args below meth c Q H0 cells slots cy D ρ A 4 36 [(0, .ref (ρ 42)), (1, .int x1), (2, .int x2), (3, .int x3)] [] u :=
  g_loop (f := M_Model_run_L36) (P := fun x => gAt p l e R s m args below meth c Q H0 cells slots cy D ρ A 4 36 [(0, .ref (ρ 42)), (1, .int x.1), (2, .int x.2.1), (3, .int x.2.2.1)] [] x.2.2.2) (E := fun yy => (∀ y', yy = y' → gAt p l e R s m args below meth c Q H0 cells slots cy D ρ A 4 61 [(0, .ref (ρ 42)), (1, .int (y'.1)), (2, .int (y'.2.1)), (3, .int (y'.2.2.1))] [] (y'.2.2.2))) (fun x z hf hN hE => t_Model_run_b36 C hf (fun x1' x2' x3' u' h => hN (x1', x2', x3', u') h) (fun x1' x2' x3' u' h => (hE _ h) (x1', x2', x3', u') rfl)) hL hE0
noncomputable def M_Model_run_b80 (x3 : Int32) (s0 : Int32) (s1 : Int32) (u : gSt) : Option ((Int32 × Int32 × gSt) ⊕ ((Int32 × gSt))) :=
  some (.inl (s1 + s0, x3 + (1 : Int32), u))
set_option maxHeartbeats 4000000 in
set_option maxRecDepth 100000 in
theorem t_Model_run_b80 (C : gX "TermDeskModel" prog_13_method_39_code 4 (some .int) 6 138 R cells slots cy D ρ A p s m args meth c) {x3 : Int32} {s0 : Int32} {s1 : Int32} {u : gSt} {z : (Int32 × Int32 × gSt) ⊕ ((Int32 × gSt))} (hM : M_Model_run_b80 x3 s0 s1 u = some z) (hN : ∀ x1' x2' u', z = .inl (x1', x2', u') → gAt p l e R s m args below meth c Q H0 cells slots cy D ρ A 4 19 [(0, .ref (ρ 42)), (1, .int (x1')), (2, .int (x2'))] [] (u')) (hE0 : ∀ x1' u', z = .inr (x1', u') → gAt p l e R s m args below meth c Q H0 cells slots cy D ρ A 4 89 [(0, .ref (ρ 42)), (1, .int (x1'))] [] (u')) : gAt p l e R s m args below meth c Q H0 cells slots cy D ρ A 4 80 [(0, .ref (ρ 42)), (3, .int x3)] [.int s0, .int s1] u := by
  intro ls H locs hl hP hS
  have hx := C.1
  have hb := C.2.1
  unfold M_Model_run_b80 at hM
  refine lv_iadd hx hb d_Model_run_80 ?_
  refine lv_istore_n (lv' := [(1, .int (s1 + s0)), (0, .ref (ρ 42)), (3, .int x3)]) hx hb d_Model_run_81 rfl hl (by decide) rfl (fun ls hl => ?_)
  refine lv_iload_n hx hb d_Model_run_82 rfl (lv_at hl 2 rfl) ?_
  refine lv_iconst (v := (1 : Int32)) hx hb d_Model_run_83 (by decide) ?_
  refine lv_iadd hx hb d_Model_run_84 ?_
  refine lv_istore_n (lv' := [(2, .int (x3 + (1 : Int32))), (1, .int (s1 + s0)), (0, .ref (ρ 42)), (3, .int x3)]) hx hb d_Model_run_85 rfl hl (by decide) rfl (fun ls hl => ?_)
  refine lv_goto (tgt := 19) hx hb d_Model_run_86 (by decide) ?_
  exact hN _ _ _ (Option.some.inj hM).symm ls H locs (lv_sub hl [2, 1, 0] rfl) hP hS
noncomputable def M_Model_run_b19 (x1 : Int32) (x2 : Int32) (u : gSt) : Option ((Int32 × Int32 × gSt) ⊕ ((Int32 × gSt))) :=
  if (u.1 42 1) ≤ x2 then
    (some (.inr (x1, u)))
  else
    (if (u.1 42 2) = (0 : Int32) then
      ((gLp M_Model_run_L36 (x1, x2, x2, u)).bind fun y36 =>
      (M_Model_line y36.2.1 y36.2.2.1 y36.2.2.2).bind fun q64 =>
      if (q64.1 42 2) = (0 : Int32) then
        (M_Model_run_b80 y36.2.2.1 (1 : Int32) y36.1 q64)
      else
        (M_Model_run_b80 y36.2.2.1 (0 : Int32) y36.1 q64))
    else
      (some (.inr (x1, u))))
set_option maxHeartbeats 4000000 in
set_option maxRecDepth 100000 in
theorem t_Model_run_b19 (C : gX "TermDeskModel" prog_13_method_39_code 4 (some .int) 6 138 R cells slots cy D ρ A p s m args meth c) {x1 : Int32} {x2 : Int32} {u : gSt} {z : (Int32 × Int32 × gSt) ⊕ ((Int32 × gSt))} (hM : M_Model_run_b19 x1 x2 u = some z) (hN : ∀ x1' x2' u', z = .inl (x1', x2', u') → gAt p l e R s m args below meth c Q H0 cells slots cy D ρ A 4 19 [(0, .ref (ρ 42)), (1, .int (x1')), (2, .int (x2'))] [] (u')) (hE0 : ∀ x1' u', z = .inr (x1', u') → gAt p l e R s m args below meth c Q H0 cells slots cy D ρ A 4 89 [(0, .ref (ρ 42)), (1, .int (x1'))] [] (u')) : gAt p l e R s m args below meth c Q H0 cells slots cy D ρ A 4 19 [(0, .ref (ρ 42)), (1, .int x1), (2, .int x2)] [] u := by
  intro ls H locs hl hP hS
  have hx := C.1
  have hb := C.2.1
  unfold M_Model_run_b19 at hM
  refine lv_iload_n hx hb d_Model_run_19 rfl (lv_at hl 2 rfl) ?_
  refine lv_aload_n hx hb d_Model_run_20 rfl (lv_at hl 0 rfl) ?_
  refine g_getI C hP gl_DeskModel_130 rfl rfl d_Model_run_21 ?_
  refine lv_icmp_ge (tgt := 89) hx hb d_Model_run_24 (by decide) (fun hc24 => ?_) (fun hc24 => ?_)
  · replace hM := gi_t hc24 hM
    exact hE0 _ _ (Option.some.inj hM).symm ls H locs (lv_sub hl [0, 1] rfl) hP hS
  · replace hM := gi_f hc24 hM
    refine lv_aload_n hx hb d_Model_run_27 rfl (lv_at hl 0 rfl) ?_
    refine g_getI C hP gl_DeskModel_137 rfl rfl d_Model_run_28 ?_
    refine lv_if_ne (tgt := 89) hx hb d_Model_run_31 (by decide) (fun hc31 => ?_) (fun hc31 => ?_)
    · replace hM := gi_f hc31 hM
      exact hE0 _ _ (Option.some.inj hM).symm ls H locs (lv_sub hl [0, 1] rfl) hP hS
    · replace hM := gi_t hc31 hM
      refine lv_iload_n hx hb d_Model_run_34 rfl (lv_at hl 2 rfl) ?_
      refine lv_istore_n (lv' := [(3, .int x2), (0, .ref (ρ 42)), (1, .int x1), (2, .int x2)]) hx hb d_Model_run_35 rfl hl (by decide) rfl (fun ls hl => ?_)
      obtain ⟨y36, hL36, hM⟩ := gb_some hM
      refine t_Model_run_L36 C hL36 (fun y36_0 hy => ?_) ls H locs (lv_sub hl [1, 2, 3, 0] rfl) hP hS
      · subst hy
        intro ls H locs hl hP hS
        refine lv_aload_n hx hb d_Model_run_61 rfl (lv_at hl 0 rfl) ?_
        refine lv_iload_n hx hb d_Model_run_62 rfl (lv_at hl 2 rfl) ?_
        refine lv_iload_n hx hb d_Model_run_63 rfl (lv_at hl 3 rfl) ?_
        obtain ⟨q64, hq64, hM⟩ := gb_some hM
        refine g_backV (g_runV (As := [.int y36.2.1, .int y36.2.2.1]) C hP (c_Model_line C.2.2.2.2.2.2.2.2.1 hq64) gi_Model_line gm_Model_233 rfl rfl (by decide) (by decide) hl.1 rfl (Nat.le_of_ble_eq_true rfl) d_Model_run_64) hS (fun H locs hP hS => ?_)
        refine lv_iload_n hx hb d_Model_run_67 rfl (lv_at hl 1 rfl) ?_
        refine lv_aload_n hx hb d_Model_run_68 rfl (lv_at hl 0 rfl) ?_
        refine g_getI C hP gl_DeskModel_137 rfl rfl d_Model_run_69 ?_
        refine lv_if_ne (tgt := 79) hx hb d_Model_run_72 (by decide) (fun hc72 => ?_) (fun hc72 => ?_)
        · replace hM := gi_f hc72 hM
          refine lv_iconst (v := (0 : Int32)) hx hb d_Model_run_79 (by decide) ?_
          exact t_Model_run_b80 C hM hN hE0 ls H locs (lv_sub hl [0, 3] rfl) hP hS
        · replace hM := gi_t hc72 hM
          refine lv_iconst (v := (1 : Int32)) hx hb d_Model_run_75 (by decide) ?_
          refine lv_goto (tgt := 80) hx hb d_Model_run_76 (by decide) ?_
          exact t_Model_run_b80 C hM hN hE0 ls H locs (lv_sub hl [0, 3] rfl) hP hS
noncomputable def M_Model_run_L19 : (Int32 × Int32 × gSt) → Option ((Int32 × Int32 × gSt) ⊕ ((Int32 × gSt))) := fun x => M_Model_run_b19 x.1 x.2.1 x.2.2
theorem t_Model_run_L19 (C : gX "TermDeskModel" prog_13_method_39_code 4 (some .int) 6 138 R cells slots cy D ρ A p s m args meth c) {x1 : Int32} {x2 : Int32} {u : gSt} {yy : (Int32 × gSt)} (hL : gLp M_Model_run_L19 (x1, x2, u) = some yy) (hE0 : (∀ y', yy = y' → gAt p l e R s m args below meth c Q H0 cells slots cy D ρ A 4 89 [(0, .ref (ρ 42)), (1, .int (y'.1))] [] (y'.2))) : gAt p l e R s m args below meth c Q H0 cells slots cy D ρ A 4 19 [(0, .ref (ρ 42)), (1, .int x1), (2, .int x2)] [] u :=
  g_loop (f := M_Model_run_L19) (P := fun x => gAt p l e R s m args below meth c Q H0 cells slots cy D ρ A 4 19 [(0, .ref (ρ 42)), (1, .int x.1), (2, .int x.2.1)] [] x.2.2) (E := fun yy => (∀ y', yy = y' → gAt p l e R s m args below meth c Q H0 cells slots cy D ρ A 4 89 [(0, .ref (ρ 42)), (1, .int (y'.1))] [] (y'.2))) (fun x z hf hN hE => t_Model_run_b19 C hf (fun x1' x2' u' h => hN (x1', x2', u') h) (fun x1' u' h => (hE _ h) (x1', u') rfl)) hL hE0
noncomputable def M_Model_run (u : gSt) : Option ((Int32 × gSt)) :=
  (some (gsF u 42 41 (0 : Int32))).bind fun u2 =>
  (some (gsF u2 42 2 (0 : Int32))).bind fun u7 =>
  (some (gsF u7 42 3 (-1 : Int32))).bind fun u12 =>
  (gLp M_Model_run_L19 ((0 : Int32), (0 : Int32), u12)).bind fun y19 =>
  (some (gsF y19.2 42 1 (0 : Int32))).bind fun u91 =>
  some (y19.1, u91)
set_option maxHeartbeats 4000000 in
set_option maxRecDepth 100000 in
theorem t_Model_run (C : gX "TermDeskModel" prog_13_method_39_code 4 (some .int) 6 138 R cells slots cy D ρ A p s m args meth c) {u : gSt} {z : (Int32 × gSt)} (hM : M_Model_run u = some z) (hR : gRtI p l e R s m args below meth c Q H0 cells slots cy D ρ A prog_13_method_39_code z.1 z.2) : gAt p l e R s m args below meth c Q H0 cells slots cy D ρ A 4 0 [(0, .ref (ρ 42))] [] u := by
  intro ls H locs hl hP hS
  have hx := C.1
  have hb := C.2.1
  unfold M_Model_run at hM
  refine lv_aload_n hx hb d_Model_run_0 rfl (lv_at hl 0 rfl) ?_
  refine lv_iconst (v := (0 : Int32)) hx hb d_Model_run_1 (by decide) ?_
  obtain ⟨u2, e2, hM⟩ := gb_some hM
  refine g_putI C hP hS gl_DeskModel_86 rfl rfl gq_8_41 d_Model_run_2 (fun H locs hP hS => ?_)
  rw [Option.some.inj e2] at hP
  refine lv_aload_n hx hb d_Model_run_5 rfl (lv_at hl 0 rfl) ?_
  refine lv_iconst (v := (0 : Int32)) hx hb d_Model_run_6 (by decide) ?_
  obtain ⟨u7, e7, hM⟩ := gb_some hM
  refine g_putI C hP hS gl_DeskModel_137 rfl rfl gq_8_2 d_Model_run_7 (fun H locs hP hS => ?_)
  rw [Option.some.inj e7] at hP
  refine lv_aload_n hx hb d_Model_run_10 rfl (lv_at hl 0 rfl) ?_
  refine lv_iconst (v := (-1 : Int32)) hx hb d_Model_run_11 (by decide) ?_
  obtain ⟨u12, e12, hM⟩ := gb_some hM
  refine g_putI C hP hS gl_DeskModel_14 rfl rfl gq_8_3 d_Model_run_12 (fun H locs hP hS => ?_)
  rw [Option.some.inj e12] at hP
  refine lv_iconst (v := (0 : Int32)) hx hb d_Model_run_15 (by decide) ?_
  refine lv_istore_n (lv' := [(1, .int (0 : Int32)), (0, .ref (ρ 42))]) hx hb d_Model_run_16 rfl hl (by decide) rfl (fun ls hl => ?_)
  refine lv_iconst (v := (0 : Int32)) hx hb d_Model_run_17 (by decide) ?_
  refine lv_istore_n (lv' := [(2, .int (0 : Int32)), (1, .int (0 : Int32)), (0, .ref (ρ 42))]) hx hb d_Model_run_18 rfl hl (by decide) rfl (fun ls hl => ?_)
  obtain ⟨y19, hL19, hM⟩ := gb_some hM
  refine t_Model_run_L19 C hL19 (fun y19_0 hy => ?_) ls H locs (lv_sub hl [2, 1, 0] rfl) hP hS
  · subst hy
    intro ls H locs hl hP hS
    refine lv_aload_n hx hb d_Model_run_89 rfl (lv_at hl 0 rfl) ?_
    refine lv_iconst (v := (0 : Int32)) hx hb d_Model_run_90 (by decide) ?_
    obtain ⟨u91, e91, hM⟩ := gb_some hM
    refine g_putI C hP hS gl_DeskModel_130 rfl rfl gq_8_1 d_Model_run_91 (fun H locs hP hS => ?_)
    rw [Option.some.inj e91] at hP
    refine lv_iload_n hx hb d_Model_run_94 rfl (lv_at hl 1 rfl) ?_
    obtain rfl := Option.some.inj hM
    exact hR _ ls H locs d_Model_run_95 hP hS
theorem c_Model_run {l : Launch} {cy : Nat → ClassId} {D : va_G} {ρ : Nat → Nat} {A : Nat → Prop} (hD : gD ρ A) {u : gSt} {z : (Int32 × gSt)} (hM : M_Model_run u = some z) : gCtI l y_Model_run prog_13_method_39_code 4 (some .int) 6 138 cy D ρ A [.ref (ρ 42)] u z.1 z.2 :=
  g_met (by decide) hD (Nat.le_of_ble_eq_true rfl) (fun p e s m below meth c ls X hl hP => t_Model_run X hM (fun pc ls H locs hd hP hS => g_iret X hP hS hd) ls _ [] hl hP va_S.rf)
end
section
variable {p : Program} {l : Launch} {e : Env} {R : Room} {s : State} {m : MethodId} {args : Array Value} {below : List Frame} {meth : Method} {c : Code} {Q : State → Prop} {H0 : Heap} {cells slots : Nat} {cy : Nat → ClassId} {D : va_G} {ρ : Nat → Nat} {A : Nat → Prop}
def y_Model_fault : MethodName := ⟨"TermDeskModel", "fault", "(I)I"⟩
theorem gi_Model_fault : gMi y_Model_fault prog_13_method_40_code 2 (some .int) 1 8 := ⟨(gWs_at 1253 (by decide +kernel) (by decide +kernel)), (gWs_at 1251 (by decide +kernel) (by decide +kernel)), (gWs_at 1252 (by decide +kernel) (by decide +kernel)), (gWs_at 125 (by decide +kernel) (by decide +kernel)), ⟨by decide +kernel, by decide +kernel, by decide +kernel⟩, _, _, rfl⟩
theorem gm_Law_78 : gMk "TermDeskLaw" 78 y_Model_fault := Or.inl (gWs_at 1250 (by decide +kernel) (by decide +kernel))
theorem d_Model_fault_0 : decode prog_13_method_40_code 0 = .ok (.aload_n 0, 1) := by decide +kernel
theorem d_Model_fault_1 : decode prog_13_method_40_code 1 = .ok (.iload_n 1, 1) := by decide +kernel
theorem d_Model_fault_2 : decode prog_13_method_40_code 2 = .ok (.ifCond .lt 8, 3) := by decide +kernel
theorem d_Model_fault_5 : decode prog_13_method_40_code 5 = .ok (.iload_n 1, 1) := by decide +kernel
theorem d_Model_fault_6 : decode prog_13_method_40_code 6 = .ok (.iconst 1, 1) := by decide +kernel
theorem d_Model_fault_7 : decode prog_13_method_40_code 7 = .ok (.if_icmp .le 7, 3) := by decide +kernel
theorem d_Model_fault_10 : decode prog_13_method_40_code 10 = .ok (.iconst 1, 1) := by decide +kernel
theorem d_Model_fault_11 : decode prog_13_method_40_code 11 = .ok (.goto 4, 3) := by decide +kernel
theorem d_Model_fault_14 : decode prog_13_method_40_code 14 = .ok (.iconst 0, 1) := by decide +kernel
theorem d_Model_fault_15 : decode prog_13_method_40_code 15 = .ok (.iconst 1, 1) := by decide +kernel
theorem d_Model_fault_16 : decode prog_13_method_40_code 16 = .ok (.invokevirtual 133, 3) := by decide +kernel
theorem d_Model_fault_19 : decode prog_13_method_40_code 19 = .ok (.ifCond .eq 5, 3) := by decide +kernel
theorem d_Model_fault_22 : decode prog_13_method_40_code 22 = .ok (.iconst 0, 1) := by decide +kernel
theorem d_Model_fault_23 : decode prog_13_method_40_code 23 = .ok (.ireturn, 1) := by decide +kernel
theorem d_Model_fault_24 : decode prog_13_method_40_code 24 = .ok (.iload_n 1, 1) := by decide +kernel
theorem d_Model_fault_25 : decode prog_13_method_40_code 25 = .ok (.ifCond .ne 10, 3) := by decide +kernel
theorem d_Model_fault_28 : decode prog_13_method_40_code 28 = .ok (.aload_n 0, 1) := by decide +kernel
theorem d_Model_fault_29 : decode prog_13_method_40_code 29 = .ok (.getfield 137, 3) := by decide +kernel
theorem d_Model_fault_32 : decode prog_13_method_40_code 32 = .ok (.goto 7, 3) := by decide +kernel
theorem d_Model_fault_35 : decode prog_13_method_40_code 35 = .ok (.aload_n 0, 1) := by decide +kernel
theorem d_Model_fault_36 : decode prog_13_method_40_code 36 = .ok (.getfield 14, 3) := by decide +kernel
theorem d_Model_fault_39 : decode prog_13_method_40_code 39 = .ok (.ireturn, 1) := by decide +kernel
noncomputable def M_Model_fault_b39 (s0 : Int32) (u : gSt) : Option ((Int32 × gSt)) :=
  some (s0, u)
set_option maxHeartbeats 4000000 in
set_option maxRecDepth 100000 in
theorem t_Model_fault_b39 (C : gX "TermDeskModel" prog_13_method_40_code 2 (some .int) 1 22 R cells slots cy D ρ A p s m args meth c) {s0 : Int32} {u : gSt} {z : (Int32 × gSt)} (hM : M_Model_fault_b39 s0 u = some z) (hR : gRtI p l e R s m args below meth c Q H0 cells slots cy D ρ A prog_13_method_40_code z.1 z.2) : gAt p l e R s m args below meth c Q H0 cells slots cy D ρ A 2 39 [] [.int s0] u := by
  intro ls H locs hl hP hS
  have hx := C.1
  have hb := C.2.1
  unfold M_Model_fault_b39 at hM
  obtain rfl := Option.some.inj hM
  exact hR _ ls H locs d_Model_fault_39 hP hS
noncomputable def M_Model_fault_b15 (x1 : Int32) (s0 : Int32) (u : gSt) : Option ((Int32 × gSt)) :=
  (M_Model_fails s0 (1 : Int32) u).bind fun q16 =>
  if q16.1 = (0 : Int32) then
    (if x1 = (0 : Int32) then
      (M_Model_fault_b39 (q16.2.1 42 2) q16.2)
    else
      (M_Model_fault_b39 (q16.2.1 42 3) q16.2))
  else
    (some ((0 : Int32), q16.2))
set_option maxHeartbeats 4000000 in
set_option maxRecDepth 100000 in
theorem t_Model_fault_b15 (C : gX "TermDeskModel" prog_13_method_40_code 2 (some .int) 1 22 R cells slots cy D ρ A p s m args meth c) {x1 : Int32} {s0 : Int32} {u : gSt} {z : (Int32 × gSt)} (hM : M_Model_fault_b15 x1 s0 u = some z) (hR : gRtI p l e R s m args below meth c Q H0 cells slots cy D ρ A prog_13_method_40_code z.1 z.2) : gAt p l e R s m args below meth c Q H0 cells slots cy D ρ A 2 15 [(0, .ref (ρ 42)), (1, .int x1)] [.int s0, .ref (ρ 42)] u := by
  intro ls H locs hl hP hS
  have hx := C.1
  have hb := C.2.1
  unfold M_Model_fault_b15 at hM
  refine lv_iconst (v := (1 : Int32)) hx hb d_Model_fault_15 (by decide) ?_
  obtain ⟨q16, hq16, hM⟩ := gb_some hM
  refine g_backI (g_runV (As := [.int s0, .int (1 : Int32)]) C hP (c_Model_fails C.2.2.2.2.2.2.2.2.1 hq16) gi_Model_fails gm_Model_133 rfl rfl (by decide) (by decide) hl.1 rfl (Nat.le_of_ble_eq_true rfl) d_Model_fault_16) hS (fun H locs hP hS => ?_)
  refine lv_if_eq (tgt := 24) hx hb d_Model_fault_19 (by decide) (fun hc19 => ?_) (fun hc19 => ?_)
  · replace hM := gi_t hc19 hM
    refine lv_iload_n hx hb d_Model_fault_24 rfl (lv_at hl 1 rfl) ?_
    refine lv_if_ne (tgt := 35) hx hb d_Model_fault_25 (by decide) (fun hc25 => ?_) (fun hc25 => ?_)
    · replace hM := gi_f hc25 hM
      refine lv_aload_n hx hb d_Model_fault_35 rfl (lv_at hl 0 rfl) ?_
      refine g_getI C hP gl_DeskModel_14 rfl rfl d_Model_fault_36 ?_
      exact t_Model_fault_b39 C hM hR ls H locs (lv_sub hl [] rfl) hP hS
    · replace hM := gi_t hc25 hM
      refine lv_aload_n hx hb d_Model_fault_28 rfl (lv_at hl 0 rfl) ?_
      refine g_getI C hP gl_DeskModel_137 rfl rfl d_Model_fault_29 ?_
      refine lv_goto (tgt := 39) hx hb d_Model_fault_32 (by decide) ?_
      exact t_Model_fault_b39 C hM hR ls H locs (lv_sub hl [] rfl) hP hS
  · replace hM := gi_f hc19 hM
    refine lv_iconst (v := (0 : Int32)) hx hb d_Model_fault_22 (by decide) ?_
    obtain rfl := Option.some.inj hM
    exact hR _ ls H locs d_Model_fault_23 hP hS
noncomputable def M_Model_fault_b10 (x1 : Int32) (u : gSt) : Option ((Int32 × gSt)) :=
  M_Model_fault_b15 x1 (1 : Int32) u
set_option maxHeartbeats 4000000 in
set_option maxRecDepth 100000 in
theorem t_Model_fault_b10 (C : gX "TermDeskModel" prog_13_method_40_code 2 (some .int) 1 22 R cells slots cy D ρ A p s m args meth c) {x1 : Int32} {u : gSt} {z : (Int32 × gSt)} (hM : M_Model_fault_b10 x1 u = some z) (hR : gRtI p l e R s m args below meth c Q H0 cells slots cy D ρ A prog_13_method_40_code z.1 z.2) : gAt p l e R s m args below meth c Q H0 cells slots cy D ρ A 2 10 [(0, .ref (ρ 42)), (1, .int x1)] [.ref (ρ 42)] u := by
  intro ls H locs hl hP hS
  have hx := C.1
  have hb := C.2.1
  unfold M_Model_fault_b10 at hM
  refine lv_iconst (v := (1 : Int32)) hx hb d_Model_fault_10 (by decide) ?_
  refine lv_goto (tgt := 15) hx hb d_Model_fault_11 (by decide) ?_
  exact t_Model_fault_b15 C hM hR ls H locs (lv_sub hl [0, 1] rfl) hP hS
noncomputable def M_Model_fault (x1 : Int32) (u : gSt) : Option ((Int32 × gSt)) :=
  if x1 < (0 : Int32) then
    (M_Model_fault_b10 x1 u)
  else
    (if x1 ≤ (1 : Int32) then
      (M_Model_fault_b15 x1 (0 : Int32) u)
    else
      (M_Model_fault_b10 x1 u))
set_option maxHeartbeats 4000000 in
set_option maxRecDepth 100000 in
theorem t_Model_fault (C : gX "TermDeskModel" prog_13_method_40_code 2 (some .int) 1 22 R cells slots cy D ρ A p s m args meth c) {x1 : Int32} {u : gSt} {z : (Int32 × gSt)} (hM : M_Model_fault x1 u = some z) (hR : gRtI p l e R s m args below meth c Q H0 cells slots cy D ρ A prog_13_method_40_code z.1 z.2) : gAt p l e R s m args below meth c Q H0 cells slots cy D ρ A 2 0 [(0, .ref (ρ 42)), (1, .int x1)] [] u := by
  intro ls H locs hl hP hS
  have hx := C.1
  have hb := C.2.1
  unfold M_Model_fault at hM
  refine lv_aload_n hx hb d_Model_fault_0 rfl (lv_at hl 0 rfl) ?_
  refine lv_iload_n hx hb d_Model_fault_1 rfl (lv_at hl 1 rfl) ?_
  refine lv_if_lt (tgt := 10) hx hb d_Model_fault_2 (by decide) (fun hc2 => ?_) (fun hc2 => ?_)
  · replace hM := gi_t hc2 hM
    exact t_Model_fault_b10 C hM hR ls H locs (lv_sub hl [0, 1] rfl) hP hS
  · replace hM := gi_f hc2 hM
    refine lv_iload_n hx hb d_Model_fault_5 rfl (lv_at hl 1 rfl) ?_
    refine lv_iconst (v := (1 : Int32)) hx hb d_Model_fault_6 (by decide) ?_
    refine lv_icmp_le (tgt := 14) hx hb d_Model_fault_7 (by decide) (fun hc7 => ?_) (fun hc7 => ?_)
    · replace hM := gi_t hc7 hM
      refine lv_iconst (v := (0 : Int32)) hx hb d_Model_fault_14 (by decide) ?_
      exact t_Model_fault_b15 C hM hR ls H locs (lv_sub hl [0, 1] rfl) hP hS
    · replace hM := gi_f hc7 hM
      exact t_Model_fault_b10 C hM hR ls H locs (lv_sub hl [0, 1] rfl) hP hS
theorem c_Model_fault {l : Launch} {cy : Nat → ClassId} {D : va_G} {ρ : Nat → Nat} {A : Nat → Prop} (hD : gD ρ A) {x1 : Int32} {u : gSt} {z : (Int32 × gSt)} (hM : M_Model_fault x1 u = some z) : gCtI l y_Model_fault prog_13_method_40_code 2 (some .int) 1 22 cy D ρ A [.ref (ρ 42), .int x1] u z.1 z.2 :=
  g_met (by decide) hD (Nat.le_of_ble_eq_true rfl) (fun p e s m below meth c ls X hl hP => t_Model_fault X hM (fun pc ls H locs hd hP hS => g_iret X hP hS hd) ls _ [] hl hP va_S.rf)
end
section
variable {p : Program} {l : Launch} {e : Env} {R : Room} {s : State} {m : MethodId} {args : Array Value} {below : List Frame} {meth : Method} {c : Code} {Q : State → Prop} {H0 : Heap} {cells slots : Nat} {cy : Nat → ClassId} {D : va_G} {ρ : Nat → Nat} {A : Nat → Prop}
def y_Model_spread : MethodName := ⟨"TermDeskModel", "spread", "()V"⟩
theorem gi_Model_spread : gMi y_Model_spread prog_13_method_41_code 5 none 0 8 := ⟨(gWs_at 1269 (by decide +kernel) (by decide +kernel)), (gWs_at 1268 (by decide +kernel) (by decide +kernel)), (gWs_at 88 (by decide +kernel) (by decide +kernel)), (gWs_at 125 (by decide +kernel) (by decide +kernel)), ⟨by decide +kernel, by decide +kernel, by decide +kernel⟩, _, _, rfl⟩
theorem gm_Model_236 : gMk "TermDeskModel" 236 y_Model_spread := Or.inl (gWs_at 1266 (by decide +kernel) (by decide +kernel))
theorem d_Model_spread_0 : decode prog_13_method_41_code 0 = .ok (.aload_n 0, 1) := by decide +kernel
theorem d_Model_spread_1 : decode prog_13_method_41_code 1 = .ok (.getfield 200, 3) := by decide +kernel
theorem d_Model_spread_4 : decode prog_13_method_41_code 4 = .ok (.ifCond .eq 4, 3) := by decide +kernel
theorem d_Model_spread_7 : decode prog_13_method_41_code 7 = .ok (.return_, 1) := by decide +kernel
theorem d_Model_spread_8 : decode prog_13_method_41_code 8 = .ok (.aload_n 0, 1) := by decide +kernel
theorem d_Model_spread_9 : decode prog_13_method_41_code 9 = .ok (.iconst 1, 1) := by decide +kernel
theorem d_Model_spread_10 : decode prog_13_method_41_code 10 = .ok (.putfield 200, 3) := by decide +kernel
theorem d_Model_spread_13 : decode prog_13_method_41_code 13 = .ok (.iconst 0, 1) := by decide +kernel
theorem d_Model_spread_14 : decode prog_13_method_41_code 14 = .ok (.istore_n 1, 1) := by decide +kernel
theorem d_Model_spread_15 : decode prog_13_method_41_code 15 = .ok (.iload_n 1, 1) := by decide +kernel
theorem d_Model_spread_16 : decode prog_13_method_41_code 16 = .ok (.aload_n 0, 1) := by decide +kernel
theorem d_Model_spread_17 : decode prog_13_method_41_code 17 = .ok (.getfield 164, 3) := by decide +kernel
theorem d_Model_spread_20 : decode prog_13_method_41_code 20 = .ok (.if_icmp .ge 111, 3) := by decide +kernel
theorem d_Model_spread_23 : decode prog_13_method_41_code 23 = .ok (.iconst 0, 1) := by decide +kernel
theorem d_Model_spread_24 : decode prog_13_method_41_code 24 = .ok (.istore_n 2, 1) := by decide +kernel
theorem d_Model_spread_25 : decode prog_13_method_41_code 25 = .ok (.iload_n 2, 1) := by decide +kernel
theorem d_Model_spread_26 : decode prog_13_method_41_code 26 = .ok (.aload_n 0, 1) := by decide +kernel
theorem d_Model_spread_27 : decode prog_13_method_41_code 27 = .ok (.getfield 184, 3) := by decide +kernel
theorem d_Model_spread_30 : decode prog_13_method_41_code 30 = .ok (.if_icmp .ge 95, 3) := by decide +kernel
theorem d_Model_spread_33 : decode prog_13_method_41_code 33 = .ok (.aload_n 0, 1) := by decide +kernel
theorem d_Model_spread_34 : decode prog_13_method_41_code 34 = .ok (.getfield 44, 3) := by decide +kernel
theorem d_Model_spread_37 : decode prog_13_method_41_code 37 = .ok (.sipush 200, 3) := by decide +kernel
theorem d_Model_spread_40 : decode prog_13_method_41_code 40 = .ok (.iload_n 1, 1) := by decide +kernel
theorem d_Model_spread_41 : decode prog_13_method_41_code 41 = .ok (.imul, 1) := by decide +kernel
theorem d_Model_spread_42 : decode prog_13_method_41_code 42 = .ok (.iload_n 2, 1) := by decide +kernel
theorem d_Model_spread_43 : decode prog_13_method_41_code 43 = .ok (.iadd, 1) := by decide +kernel
theorem d_Model_spread_44 : decode prog_13_method_41_code 44 = .ok (.baload, 1) := by decide +kernel
theorem d_Model_spread_45 : decode prog_13_method_41_code 45 = .ok (.istore_n 3, 1) := by decide +kernel
theorem d_Model_spread_46 : decode prog_13_method_41_code 46 = .ok (.iconst 0, 1) := by decide +kernel
theorem d_Model_spread_47 : decode prog_13_method_41_code 47 = .ok (.istore 4, 2) := by decide +kernel
theorem d_Model_spread_49 : decode prog_13_method_41_code 49 = .ok (.iload 4, 2) := by decide +kernel
theorem d_Model_spread_51 : decode prog_13_method_41_code 51 = .ok (.aload_n 0, 1) := by decide +kernel
theorem d_Model_spread_52 : decode prog_13_method_41_code 52 = .ok (.getfield 184, 3) := by decide +kernel
theorem d_Model_spread_55 : decode prog_13_method_41_code 55 = .ok (.if_icmp .ge 51, 3) := by decide +kernel
theorem d_Model_spread_58 : decode prog_13_method_41_code 58 = .ok (.iload_n 3, 1) := by decide +kernel
theorem d_Model_spread_59 : decode prog_13_method_41_code 59 = .ok (.ifCond .ne 47, 3) := by decide +kernel
theorem d_Model_spread_62 : decode prog_13_method_41_code 62 = .ok (.aload_n 0, 1) := by decide +kernel
theorem d_Model_spread_63 : decode prog_13_method_41_code 63 = .ok (.getfield 44, 3) := by decide +kernel
theorem d_Model_spread_66 : decode prog_13_method_41_code 66 = .ok (.sipush 200, 3) := by decide +kernel
theorem d_Model_spread_69 : decode prog_13_method_41_code 69 = .ok (.iload_n 1, 1) := by decide +kernel
theorem d_Model_spread_70 : decode prog_13_method_41_code 70 = .ok (.imul, 1) := by decide +kernel
theorem d_Model_spread_71 : decode prog_13_method_41_code 71 = .ok (.iload 4, 2) := by decide +kernel
theorem d_Model_spread_73 : decode prog_13_method_41_code 73 = .ok (.iadd, 1) := by decide +kernel
theorem d_Model_spread_74 : decode prog_13_method_41_code 74 = .ok (.baload, 1) := by decide +kernel
theorem d_Model_spread_75 : decode prog_13_method_41_code 75 = .ok (.ifCond .eq 23, 3) := by decide +kernel
theorem d_Model_spread_78 : decode prog_13_method_41_code 78 = .ok (.aload_n 0, 1) := by decide +kernel
theorem d_Model_spread_79 : decode prog_13_method_41_code 79 = .ok (.getfield 41, 3) := by decide +kernel
theorem d_Model_spread_82 : decode prog_13_method_41_code 82 = .ok (.sipush 200, 3) := by decide +kernel
theorem d_Model_spread_85 : decode prog_13_method_41_code 85 = .ok (.iload 4, 2) := by decide +kernel
theorem d_Model_spread_87 : decode prog_13_method_41_code 87 = .ok (.imul, 1) := by decide +kernel
theorem d_Model_spread_88 : decode prog_13_method_41_code 88 = .ok (.iload_n 2, 1) := by decide +kernel
theorem d_Model_spread_89 : decode prog_13_method_41_code 89 = .ok (.iadd, 1) := by decide +kernel
theorem d_Model_spread_90 : decode prog_13_method_41_code 90 = .ok (.baload, 1) := by decide +kernel
theorem d_Model_spread_91 : decode prog_13_method_41_code 91 = .ok (.ifCond .eq 7, 3) := by decide +kernel
theorem d_Model_spread_94 : decode prog_13_method_41_code 94 = .ok (.iconst 1, 1) := by decide +kernel
theorem d_Model_spread_95 : decode prog_13_method_41_code 95 = .ok (.goto 4, 3) := by decide +kernel
theorem d_Model_spread_98 : decode prog_13_method_41_code 98 = .ok (.iconst 0, 1) := by decide +kernel
theorem d_Model_spread_99 : decode prog_13_method_41_code 99 = .ok (.istore_n 3, 1) := by decide +kernel
theorem d_Model_spread_100 : decode prog_13_method_41_code 100 = .ok (.iinc 4 1, 3) := by decide +kernel
theorem d_Model_spread_103 : decode prog_13_method_41_code 103 = .ok (.goto (-54), 3) := by decide +kernel
theorem d_Model_spread_106 : decode prog_13_method_41_code 106 = .ok (.aload_n 0, 1) := by decide +kernel
theorem d_Model_spread_107 : decode prog_13_method_41_code 107 = .ok (.getfield 47, 3) := by decide +kernel
theorem d_Model_spread_110 : decode prog_13_method_41_code 110 = .ok (.sipush 200, 3) := by decide +kernel
theorem d_Model_spread_113 : decode prog_13_method_41_code 113 = .ok (.iload_n 1, 1) := by decide +kernel
theorem d_Model_spread_114 : decode prog_13_method_41_code 114 = .ok (.imul, 1) := by decide +kernel
theorem d_Model_spread_115 : decode prog_13_method_41_code 115 = .ok (.iload_n 2, 1) := by decide +kernel
theorem d_Model_spread_116 : decode prog_13_method_41_code 116 = .ok (.iadd, 1) := by decide +kernel
theorem d_Model_spread_117 : decode prog_13_method_41_code 117 = .ok (.iload_n 3, 1) := by decide +kernel
theorem d_Model_spread_118 : decode prog_13_method_41_code 118 = .ok (.bastore, 1) := by decide +kernel
theorem d_Model_spread_119 : decode prog_13_method_41_code 119 = .ok (.iinc 2 1, 3) := by decide +kernel
theorem d_Model_spread_122 : decode prog_13_method_41_code 122 = .ok (.goto (-97), 3) := by decide +kernel
theorem d_Model_spread_125 : decode prog_13_method_41_code 125 = .ok (.iinc 1 1, 3) := by decide +kernel
theorem d_Model_spread_128 : decode prog_13_method_41_code 128 = .ok (.goto (-113), 3) := by decide +kernel
theorem d_Model_spread_131 : decode prog_13_method_41_code 131 = .ok (.return_, 1) := by decide +kernel
noncomputable def M_Model_spread_b99 (x1 : Int32) (x2 : Int32) (x4 : Int32) (s0 : Int32) (u : gSt) : Option ((Int32 × Int32 × Int32 × Int32 × gSt) ⊕ ((Int32 × Int32 × Int32 × gSt))) :=
  some (.inl (x1, x2, s0, x4 + (1 : Int32), u))
set_option maxHeartbeats 4000000 in
set_option maxRecDepth 100000 in
theorem t_Model_spread_b99 (C : gX "TermDeskModel" prog_13_method_41_code 5 none 0 0 R cells slots cy D ρ A p s m args meth c) {x1 : Int32} {x2 : Int32} {x4 : Int32} {s0 : Int32} {u : gSt} {z : (Int32 × Int32 × Int32 × Int32 × gSt) ⊕ ((Int32 × Int32 × Int32 × gSt))} (hM : M_Model_spread_b99 x1 x2 x4 s0 u = some z) (hN : ∀ x1' x2' x3' x4' u', z = .inl (x1', x2', x3', x4', u') → gAt p l e R s m args below meth c Q H0 cells slots cy D ρ A 5 49 [(0, .ref (ρ 42)), (1, .int (x1')), (2, .int (x2')), (3, .int (x3')), (4, .int (x4'))] [] (u')) (hE0 : ∀ x1' x2' x3' u', z = .inr (x1', x2', x3', u') → gAt p l e R s m args below meth c Q H0 cells slots cy D ρ A 5 106 [(0, .ref (ρ 42)), (1, .int (x1')), (2, .int (x2')), (3, .int (x3'))] [] (u')) : gAt p l e R s m args below meth c Q H0 cells slots cy D ρ A 5 99 [(0, .ref (ρ 42)), (1, .int x1), (2, .int x2), (4, .int x4)] [.int s0] u := by
  intro ls H locs hl hP hS
  have hx := C.1
  have hb := C.2.1
  unfold M_Model_spread_b99 at hM
  refine lv_istore_n (lv' := [(3, .int s0), (0, .ref (ρ 42)), (1, .int x1), (2, .int x2), (4, .int x4)]) hx hb d_Model_spread_99 rfl hl (by decide) rfl (fun ls hl => ?_)
  refine lv_iinc (k := 4) (v := x4 + (1 : Int32)) (lv' := [(4, .int (x4 + (1 : Int32))), (3, .int s0), (0, .ref (ρ 42)), (1, .int x1), (2, .int x2)]) hx hb d_Model_spread_100 hl rfl (congrArg (fun z => x4 + z) (by decide)) (by decide) rfl (fun ls hl => ?_)
  refine lv_goto (tgt := 49) hx hb d_Model_spread_103 (by decide) ?_
  exact hN _ _ _ _ _ (Option.some.inj hM).symm ls H locs (lv_sub hl [2, 3, 4, 1, 0] rfl) hP hS
noncomputable def M_Model_spread_b98 (x1 : Int32) (x2 : Int32) (x4 : Int32) (u : gSt) : Option ((Int32 × Int32 × Int32 × Int32 × gSt) ⊕ ((Int32 × Int32 × Int32 × gSt))) :=
  M_Model_spread_b99 x1 x2 x4 (0 : Int32) u
set_option maxHeartbeats 4000000 in
set_option maxRecDepth 100000 in
theorem t_Model_spread_b98 (C : gX "TermDeskModel" prog_13_method_41_code 5 none 0 0 R cells slots cy D ρ A p s m args meth c) {x1 : Int32} {x2 : Int32} {x4 : Int32} {u : gSt} {z : (Int32 × Int32 × Int32 × Int32 × gSt) ⊕ ((Int32 × Int32 × Int32 × gSt))} (hM : M_Model_spread_b98 x1 x2 x4 u = some z) (hN : ∀ x1' x2' x3' x4' u', z = .inl (x1', x2', x3', x4', u') → gAt p l e R s m args below meth c Q H0 cells slots cy D ρ A 5 49 [(0, .ref (ρ 42)), (1, .int (x1')), (2, .int (x2')), (3, .int (x3')), (4, .int (x4'))] [] (u')) (hE0 : ∀ x1' x2' x3' u', z = .inr (x1', x2', x3', u') → gAt p l e R s m args below meth c Q H0 cells slots cy D ρ A 5 106 [(0, .ref (ρ 42)), (1, .int (x1')), (2, .int (x2')), (3, .int (x3'))] [] (u')) : gAt p l e R s m args below meth c Q H0 cells slots cy D ρ A 5 98 [(0, .ref (ρ 42)), (1, .int x1), (2, .int x2), (4, .int x4)] [] u := by
  intro ls H locs hl hP hS
  have hx := C.1
  have hb := C.2.1
  unfold M_Model_spread_b98 at hM
  refine lv_iconst (v := (0 : Int32)) hx hb d_Model_spread_98 (by decide) ?_
  exact t_Model_spread_b99 C hM hN hE0 ls H locs (lv_sub hl [0, 1, 2, 3] rfl) hP hS
noncomputable def M_Model_spread_b49 (x1 : Int32) (x2 : Int32) (x3 : Int32) (x4 : Int32) (u : gSt) : Option ((Int32 × Int32 × Int32 × Int32 × gSt) ⊕ ((Int32 × Int32 × Int32 × gSt))) :=
  if (u.1 42 11) ≤ x4 then
    (some (.inr (x1, x2, x3, u)))
  else
    (if x3 = (0 : Int32) then
      (gc (gIn (((200 : Int32) * x1) + x4) (gLen 52)) <| if (u.2.2.1 52 (gIx (((200 : Int32) * x1) + x4))) = (0 : Int32) then
        (M_Model_spread_b98 x1 x2 x4 u)
      else
        (gc (gIn (((200 : Int32) * x4) + x2) (gLen 51)) <| if (u.2.2.1 51 (gIx (((200 : Int32) * x4) + x2))) = (0 : Int32) then
          (M_Model_spread_b98 x1 x2 x4 u)
        else
          (M_Model_spread_b99 x1 x2 x4 (1 : Int32) u)))
    else
      (some (.inr (x1, x2, x3, u))))
set_option maxHeartbeats 4000000 in
set_option maxRecDepth 100000 in
theorem t_Model_spread_b49 (C : gX "TermDeskModel" prog_13_method_41_code 5 none 0 0 R cells slots cy D ρ A p s m args meth c) {x1 : Int32} {x2 : Int32} {x3 : Int32} {x4 : Int32} {u : gSt} {z : (Int32 × Int32 × Int32 × Int32 × gSt) ⊕ ((Int32 × Int32 × Int32 × gSt))} (hM : M_Model_spread_b49 x1 x2 x3 x4 u = some z) (hN : ∀ x1' x2' x3' x4' u', z = .inl (x1', x2', x3', x4', u') → gAt p l e R s m args below meth c Q H0 cells slots cy D ρ A 5 49 [(0, .ref (ρ 42)), (1, .int (x1')), (2, .int (x2')), (3, .int (x3')), (4, .int (x4'))] [] (u')) (hE0 : ∀ x1' x2' x3' u', z = .inr (x1', x2', x3', u') → gAt p l e R s m args below meth c Q H0 cells slots cy D ρ A 5 106 [(0, .ref (ρ 42)), (1, .int (x1')), (2, .int (x2')), (3, .int (x3'))] [] (u')) : gAt p l e R s m args below meth c Q H0 cells slots cy D ρ A 5 49 [(0, .ref (ρ 42)), (1, .int x1), (2, .int x2), (3, .int x3), (4, .int x4)] [] u := by
  intro ls H locs hl hP hS
  have hx := C.1
  have hb := C.2.1
  unfold M_Model_spread_b49 at hM
  refine lv_iload hx hb d_Model_spread_49 (lv_at hl 4 rfl) ?_
  refine lv_aload_n hx hb d_Model_spread_51 rfl (lv_at hl 0 rfl) ?_
  refine g_getI C hP gl_DeskModel_184 rfl rfl d_Model_spread_52 ?_
  refine lv_icmp_ge (tgt := 106) hx hb d_Model_spread_55 (by decide) (fun hc55 => ?_) (fun hc55 => ?_)
  · replace hM := gi_t hc55 hM
    exact hE0 _ _ _ _ (Option.some.inj hM).symm ls H locs (lv_sub hl [0, 1, 2, 3] rfl) hP hS
  · replace hM := gi_f hc55 hM
    refine lv_iload_n hx hb d_Model_spread_58 rfl (lv_at hl 3 rfl) ?_
    refine lv_if_ne (tgt := 106) hx hb d_Model_spread_59 (by decide) (fun hc59 => ?_) (fun hc59 => ?_)
    · replace hM := gi_f hc59 hM
      exact hE0 _ _ _ _ (Option.some.inj hM).symm ls H locs (lv_sub hl [0, 1, 2, 3] rfl) hP hS
    · replace hM := gi_t hc59 hM
      refine lv_aload_n hx hb d_Model_spread_62 rfl (lv_at hl 0 rfl) ?_
      refine g_getR (b := 52) C hP gl_DeskModel_44 rfl rfl rfl d_Model_spread_63 ?_
      refine lv_sipush (v := (200 : Int32)) hx hb d_Model_spread_66 (by decide) ?_
      refine lv_iload_n hx hb d_Model_spread_69 rfl (lv_at hl 1 rfl) ?_
      refine lv_imul hx hb d_Model_spread_70 ?_
      refine lv_iload hx hb d_Model_spread_71 (lv_at hl 4 rfl) ?_
      refine lv_iadd hx hb d_Model_spread_73 ?_
      obtain ⟨hi74, hM⟩ := gc_some hM
      refine g_zald C hP rfl hi74 d_Model_spread_74 ?_
      refine lv_if_eq (tgt := 98) hx hb d_Model_spread_75 (by decide) (fun hc75 => ?_) (fun hc75 => ?_)
      · replace hM := gi_t hc75 hM
        exact t_Model_spread_b98 C hM hN hE0 ls H locs (lv_sub hl [0, 1, 2, 4] rfl) hP hS
      · replace hM := gi_f hc75 hM
        refine lv_aload_n hx hb d_Model_spread_78 rfl (lv_at hl 0 rfl) ?_
        refine g_getR (b := 51) C hP gl_DeskModel_41 rfl rfl rfl d_Model_spread_79 ?_
        refine lv_sipush (v := (200 : Int32)) hx hb d_Model_spread_82 (by decide) ?_
        refine lv_iload hx hb d_Model_spread_85 (lv_at hl 4 rfl) ?_
        refine lv_imul hx hb d_Model_spread_87 ?_
        refine lv_iload_n hx hb d_Model_spread_88 rfl (lv_at hl 2 rfl) ?_
        refine lv_iadd hx hb d_Model_spread_89 ?_
        obtain ⟨hi90, hM⟩ := gc_some hM
        refine g_zald C hP rfl hi90 d_Model_spread_90 ?_
        refine lv_if_eq (tgt := 98) hx hb d_Model_spread_91 (by decide) (fun hc91 => ?_) (fun hc91 => ?_)
        · replace hM := gi_t hc91 hM
          exact t_Model_spread_b98 C hM hN hE0 ls H locs (lv_sub hl [0, 1, 2, 4] rfl) hP hS
        · replace hM := gi_f hc91 hM
          refine lv_iconst (v := (1 : Int32)) hx hb d_Model_spread_94 (by decide) ?_
          refine lv_goto (tgt := 99) hx hb d_Model_spread_95 (by decide) ?_
          exact t_Model_spread_b99 C hM hN hE0 ls H locs (lv_sub hl [0, 1, 2, 4] rfl) hP hS
noncomputable def M_Model_spread_L49 : (Int32 × Int32 × Int32 × Int32 × gSt) → Option ((Int32 × Int32 × Int32 × Int32 × gSt) ⊕ ((Int32 × Int32 × Int32 × gSt))) := fun x => M_Model_spread_b49 x.1 x.2.1 x.2.2.1 x.2.2.2.1 x.2.2.2.2
theorem t_Model_spread_L49 (C : gX "TermDeskModel" prog_13_method_41_code 5 none 0 0 R cells slots cy D ρ A p s m args meth c) {x1 : Int32} {x2 : Int32} {x3 : Int32} {x4 : Int32} {u : gSt} {yy : (Int32 × Int32 × Int32 × gSt)} (hL : gLp M_Model_spread_L49 (x1, x2, x3, x4, u) = some yy) (hE0 : (∀ y', yy = y' → gAt p l e R s m args below meth c Q H0 cells slots cy D ρ A 5 106 [(0, .ref (ρ 42)), (1, .int (y'.1)), (2, .int (y'.2.1)), (3, .int (y'.2.2.1))] [] (y'.2.2.2))) : gAt p l e R s m args below meth c Q H0 cells slots cy D ρ A 5 49 [(0, .ref (ρ 42)), (1, .int x1), (2, .int x2), (3, .int x3), (4, .int x4)] [] u :=
  g_loop (f := M_Model_spread_L49) (P := fun x => gAt p l e R s m args below meth c Q H0 cells slots cy D ρ A 5 49 [(0, .ref (ρ 42)), (1, .int x.1), (2, .int x.2.1), (3, .int x.2.2.1), (4, .int x.2.2.2.1)] [] x.2.2.2.2) (E := fun yy => (∀ y', yy = y' → gAt p l e R s m args below meth c Q H0 cells slots cy D ρ A 5 106 [(0, .ref (ρ 42)), (1, .int (y'.1)), (2, .int (y'.2.1)), (3, .int (y'.2.2.1))] [] (y'.2.2.2))) (fun x z hf hN hE => t_Model_spread_b49 C hf (fun x1' x2' x3' x4' u' h => hN (x1', x2', x3', x4', u') h) (fun x1' x2' x3' u' h => (hE _ h) (x1', x2', x3', u') rfl)) hL hE0
noncomputable def M_Model_spread_b25 (x1 : Int32) (x2 : Int32) (u : gSt) : Option ((Int32 × Int32 × gSt) ⊕ ((Int32 × gSt))) :=
  if (u.1 42 11) ≤ x2 then
    (some (.inr (x1, u)))
  else
    (gc (gIn (((200 : Int32) * x1) + x2) (gLen 52)) <| (gLp M_Model_spread_L49 (x1, x2, u.2.2.1 52 (gIx (((200 : Int32) * x1) + x2)), (0 : Int32), u)).bind fun y49 =>
    gc (gIn (((200 : Int32) * y49.1) + y49.2.1) (gLen 53)) <| gc (gZ y49.2.2.1) <| (some (gsA y49.2.2.2 53 (gIx (((200 : Int32) * y49.1) + y49.2.1)) y49.2.2.1)).bind fun u118 =>
    some (.inl (y49.1, y49.2.1 + (1 : Int32), u118)))
set_option maxHeartbeats 4000000 in
set_option maxRecDepth 100000 in
theorem t_Model_spread_b25 (C : gX "TermDeskModel" prog_13_method_41_code 5 none 0 0 R cells slots cy D ρ A p s m args meth c) {x1 : Int32} {x2 : Int32} {u : gSt} {z : (Int32 × Int32 × gSt) ⊕ ((Int32 × gSt))} (hM : M_Model_spread_b25 x1 x2 u = some z) (hN : ∀ x1' x2' u', z = .inl (x1', x2', u') → gAt p l e R s m args below meth c Q H0 cells slots cy D ρ A 5 25 [(0, .ref (ρ 42)), (1, .int (x1')), (2, .int (x2'))] [] (u')) (hE0 : ∀ x1' u', z = .inr (x1', u') → gAt p l e R s m args below meth c Q H0 cells slots cy D ρ A 5 125 [(0, .ref (ρ 42)), (1, .int (x1'))] [] (u')) : gAt p l e R s m args below meth c Q H0 cells slots cy D ρ A 5 25 [(0, .ref (ρ 42)), (1, .int x1), (2, .int x2)] [] u := by
  intro ls H locs hl hP hS
  have hx := C.1
  have hb := C.2.1
  unfold M_Model_spread_b25 at hM
  refine lv_iload_n hx hb d_Model_spread_25 rfl (lv_at hl 2 rfl) ?_
  refine lv_aload_n hx hb d_Model_spread_26 rfl (lv_at hl 0 rfl) ?_
  refine g_getI C hP gl_DeskModel_184 rfl rfl d_Model_spread_27 ?_
  refine lv_icmp_ge (tgt := 125) hx hb d_Model_spread_30 (by decide) (fun hc30 => ?_) (fun hc30 => ?_)
  · replace hM := gi_t hc30 hM
    exact hE0 _ _ (Option.some.inj hM).symm ls H locs (lv_sub hl [0, 1] rfl) hP hS
  · replace hM := gi_f hc30 hM
    refine lv_aload_n hx hb d_Model_spread_33 rfl (lv_at hl 0 rfl) ?_
    refine g_getR (b := 52) C hP gl_DeskModel_44 rfl rfl rfl d_Model_spread_34 ?_
    refine lv_sipush (v := (200 : Int32)) hx hb d_Model_spread_37 (by decide) ?_
    refine lv_iload_n hx hb d_Model_spread_40 rfl (lv_at hl 1 rfl) ?_
    refine lv_imul hx hb d_Model_spread_41 ?_
    refine lv_iload_n hx hb d_Model_spread_42 rfl (lv_at hl 2 rfl) ?_
    refine lv_iadd hx hb d_Model_spread_43 ?_
    obtain ⟨hi44, hM⟩ := gc_some hM
    refine g_zald C hP rfl hi44 d_Model_spread_44 ?_
    refine lv_istore_n (lv' := [(3, .int (u.2.2.1 52 (gIx (((200 : Int32) * x1) + x2)))), (0, .ref (ρ 42)), (1, .int x1), (2, .int x2)]) hx hb d_Model_spread_45 rfl hl (by decide) rfl (fun ls hl => ?_)
    refine lv_iconst (v := (0 : Int32)) hx hb d_Model_spread_46 (by decide) ?_
    refine lv_istore (lv' := [(4, .int (0 : Int32)), (3, .int (u.2.2.1 52 (gIx (((200 : Int32) * x1) + x2)))), (0, .ref (ρ 42)), (1, .int x1), (2, .int x2)]) hx hb d_Model_spread_47 hl (by decide) rfl (fun ls hl => ?_)
    obtain ⟨y49, hL49, hM⟩ := gb_some hM
    refine t_Model_spread_L49 C hL49 (fun y49_0 hy => ?_) ls H locs (lv_sub hl [2, 3, 4, 1, 0] rfl) hP hS
    · subst hy
      intro ls H locs hl hP hS
      refine lv_aload_n hx hb d_Model_spread_106 rfl (lv_at hl 0 rfl) ?_
      refine g_getR (b := 53) C hP gl_DeskModel_47 rfl rfl rfl d_Model_spread_107 ?_
      refine lv_sipush (v := (200 : Int32)) hx hb d_Model_spread_110 (by decide) ?_
      refine lv_iload_n hx hb d_Model_spread_113 rfl (lv_at hl 1 rfl) ?_
      refine lv_imul hx hb d_Model_spread_114 ?_
      refine lv_iload_n hx hb d_Model_spread_115 rfl (lv_at hl 2 rfl) ?_
      refine lv_iadd hx hb d_Model_spread_116 ?_
      refine lv_iload_n hx hb d_Model_spread_117 rfl (lv_at hl 3 rfl) ?_
      obtain ⟨hi118, hM⟩ := gc_some hM
      obtain ⟨hz118, hM⟩ := gc_some hM
      obtain ⟨u118, e118, hM⟩ := gb_some hM
      refine g_zast C hP hS rfl hi118 hz118 d_Model_spread_118 (fun H locs hP hS => ?_)
      rw [Option.some.inj e118] at hP
      refine lv_iinc (k := 2) (v := y49.2.1 + (1 : Int32)) (lv' := [(2, .int (y49.2.1 + (1 : Int32))), (0, .ref (ρ 42)), (1, .int y49.1), (3, .int y49.2.2.1)]) hx hb d_Model_spread_119 hl rfl (congrArg (fun z => y49.2.1 + z) (by decide)) (by decide) rfl (fun ls hl => ?_)
      refine lv_goto (tgt := 25) hx hb d_Model_spread_122 (by decide) ?_
      exact hN _ _ _ (Option.some.inj hM).symm ls H locs (lv_sub hl [1, 2, 0] rfl) hP hS
noncomputable def M_Model_spread_L25 : (Int32 × Int32 × gSt) → Option ((Int32 × Int32 × gSt) ⊕ ((Int32 × gSt))) := fun x => M_Model_spread_b25 x.1 x.2.1 x.2.2
theorem t_Model_spread_L25 (C : gX "TermDeskModel" prog_13_method_41_code 5 none 0 0 R cells slots cy D ρ A p s m args meth c) {x1 : Int32} {x2 : Int32} {u : gSt} {yy : (Int32 × gSt)} (hL : gLp M_Model_spread_L25 (x1, x2, u) = some yy) (hE0 : (∀ y', yy = y' → gAt p l e R s m args below meth c Q H0 cells slots cy D ρ A 5 125 [(0, .ref (ρ 42)), (1, .int (y'.1))] [] (y'.2))) : gAt p l e R s m args below meth c Q H0 cells slots cy D ρ A 5 25 [(0, .ref (ρ 42)), (1, .int x1), (2, .int x2)] [] u :=
  g_loop (f := M_Model_spread_L25) (P := fun x => gAt p l e R s m args below meth c Q H0 cells slots cy D ρ A 5 25 [(0, .ref (ρ 42)), (1, .int x.1), (2, .int x.2.1)] [] x.2.2) (E := fun yy => (∀ y', yy = y' → gAt p l e R s m args below meth c Q H0 cells slots cy D ρ A 5 125 [(0, .ref (ρ 42)), (1, .int (y'.1))] [] (y'.2))) (fun x z hf hN hE => t_Model_spread_b25 C hf (fun x1' x2' u' h => hN (x1', x2', u') h) (fun x1' u' h => (hE _ h) (x1', u') rfl)) hL hE0
noncomputable def M_Model_spread_b15 (x1 : Int32) (u : gSt) : Option ((Int32 × gSt) ⊕ ((gSt))) :=
  if (u.1 42 10) ≤ x1 then
    (some (.inr u))
  else
    ((gLp M_Model_spread_L25 (x1, (0 : Int32), u)).bind fun y25 =>
    some (.inl (y25.1 + (1 : Int32), y25.2)))
set_option maxHeartbeats 4000000 in
set_option maxRecDepth 100000 in
theorem t_Model_spread_b15 (C : gX "TermDeskModel" prog_13_method_41_code 5 none 0 0 R cells slots cy D ρ A p s m args meth c) {x1 : Int32} {u : gSt} {z : (Int32 × gSt) ⊕ ((gSt))} (hM : M_Model_spread_b15 x1 u = some z) (hN : ∀ x1' u', z = .inl (x1', u') → gAt p l e R s m args below meth c Q H0 cells slots cy D ρ A 5 15 [(0, .ref (ρ 42)), (1, .int (x1'))] [] (u')) (hE0 : ∀ u', z = .inr u' → gAt p l e R s m args below meth c Q H0 cells slots cy D ρ A 5 131 [] [] (u')) : gAt p l e R s m args below meth c Q H0 cells slots cy D ρ A 5 15 [(0, .ref (ρ 42)), (1, .int x1)] [] u := by
  intro ls H locs hl hP hS
  have hx := C.1
  have hb := C.2.1
  unfold M_Model_spread_b15 at hM
  refine lv_iload_n hx hb d_Model_spread_15 rfl (lv_at hl 1 rfl) ?_
  refine lv_aload_n hx hb d_Model_spread_16 rfl (lv_at hl 0 rfl) ?_
  refine g_getI C hP gl_DeskModel_164 rfl rfl d_Model_spread_17 ?_
  refine lv_icmp_ge (tgt := 131) hx hb d_Model_spread_20 (by decide) (fun hc20 => ?_) (fun hc20 => ?_)
  · replace hM := gi_t hc20 hM
    exact hE0 _ (Option.some.inj hM).symm ls H locs (lv_sub hl [] rfl) hP hS
  · replace hM := gi_f hc20 hM
    refine lv_iconst (v := (0 : Int32)) hx hb d_Model_spread_23 (by decide) ?_
    refine lv_istore_n (lv' := [(2, .int (0 : Int32)), (0, .ref (ρ 42)), (1, .int x1)]) hx hb d_Model_spread_24 rfl hl (by decide) rfl (fun ls hl => ?_)
    obtain ⟨y25, hL25, hM⟩ := gb_some hM
    refine t_Model_spread_L25 C hL25 (fun y25_0 hy => ?_) ls H locs (lv_sub hl [1, 2, 0] rfl) hP hS
    · subst hy
      intro ls H locs hl hP hS
      refine lv_iinc (k := 1) (v := y25.1 + (1 : Int32)) (lv' := [(1, .int (y25.1 + (1 : Int32))), (0, .ref (ρ 42))]) hx hb d_Model_spread_125 hl rfl (congrArg (fun z => y25.1 + z) (by decide)) (by decide) rfl (fun ls hl => ?_)
      refine lv_goto (tgt := 15) hx hb d_Model_spread_128 (by decide) ?_
      exact hN _ _ (Option.some.inj hM).symm ls H locs (lv_sub hl [1, 0] rfl) hP hS
noncomputable def M_Model_spread_L15 : (Int32 × gSt) → Option ((Int32 × gSt) ⊕ ((gSt))) := fun x => M_Model_spread_b15 x.1 x.2
theorem t_Model_spread_L15 (C : gX "TermDeskModel" prog_13_method_41_code 5 none 0 0 R cells slots cy D ρ A p s m args meth c) {x1 : Int32} {u : gSt} {yy : (gSt)} (hL : gLp M_Model_spread_L15 (x1, u) = some yy) (hE0 : (∀ y', yy = y' → gAt p l e R s m args below meth c Q H0 cells slots cy D ρ A 5 131 [] [] (y'))) : gAt p l e R s m args below meth c Q H0 cells slots cy D ρ A 5 15 [(0, .ref (ρ 42)), (1, .int x1)] [] u :=
  g_loop (f := M_Model_spread_L15) (P := fun x => gAt p l e R s m args below meth c Q H0 cells slots cy D ρ A 5 15 [(0, .ref (ρ 42)), (1, .int x.1)] [] x.2) (E := fun yy => (∀ y', yy = y' → gAt p l e R s m args below meth c Q H0 cells slots cy D ρ A 5 131 [] [] (y'))) (fun x z hf hN hE => t_Model_spread_b15 C hf (fun x1' u' h => hN (x1', u') h) (fun u' h => (hE _ h) u' rfl)) hL hE0
noncomputable def M_Model_spread (u : gSt) : Option (gSt) :=
  if (u.1 42 17) = (0 : Int32) then
    ((some (gsF u 42 17 (1 : Int32))).bind fun u10 =>
    (gLp M_Model_spread_L15 ((0 : Int32), u10)).bind fun y15 =>
    some y15)
  else
    (some u)
set_option maxHeartbeats 4000000 in
set_option maxRecDepth 100000 in
theorem t_Model_spread (C : gX "TermDeskModel" prog_13_method_41_code 5 none 0 0 R cells slots cy D ρ A p s m args meth c) {u : gSt} {z : gSt} (hM : M_Model_spread u = some z) (hR : gRtV p l e R s m args below meth c Q H0 cells slots cy D ρ A prog_13_method_41_code z) : gAt p l e R s m args below meth c Q H0 cells slots cy D ρ A 5 0 [(0, .ref (ρ 42))] [] u := by
  intro ls H locs hl hP hS
  have hx := C.1
  have hb := C.2.1
  unfold M_Model_spread at hM
  refine lv_aload_n hx hb d_Model_spread_0 rfl (lv_at hl 0 rfl) ?_
  refine g_getI C hP gl_DeskModel_200 rfl rfl d_Model_spread_1 ?_
  refine lv_if_eq (tgt := 8) hx hb d_Model_spread_4 (by decide) (fun hc4 => ?_) (fun hc4 => ?_)
  · replace hM := gi_t hc4 hM
    refine lv_aload_n hx hb d_Model_spread_8 rfl (lv_at hl 0 rfl) ?_
    refine lv_iconst (v := (1 : Int32)) hx hb d_Model_spread_9 (by decide) ?_
    obtain ⟨u10, e10, hM⟩ := gb_some hM
    refine g_putZ C hP hS gl_DeskModel_200 rfl rfl gq_8_17 rfl d_Model_spread_10 (fun H locs hP hS => ?_)
    rw [Option.some.inj e10] at hP
    refine lv_iconst (v := (0 : Int32)) hx hb d_Model_spread_13 (by decide) ?_
    refine lv_istore_n (lv' := [(1, .int (0 : Int32)), (0, .ref (ρ 42))]) hx hb d_Model_spread_14 rfl hl (by decide) rfl (fun ls hl => ?_)
    obtain ⟨y15, hL15, hM⟩ := gb_some hM
    refine t_Model_spread_L15 C hL15 (fun y15_0 hy => ?_) ls H locs (lv_sub hl [1, 0] rfl) hP hS
    · subst hy
      intro ls H locs hl hP hS
      obtain rfl := Option.some.inj hM
      exact hR _ ls H locs d_Model_spread_131 hP hS
  · replace hM := gi_f hc4 hM
    obtain rfl := Option.some.inj hM
    exact hR _ ls H locs d_Model_spread_7 hP hS
theorem c_Model_spread {l : Launch} {cy : Nat → ClassId} {D : va_G} {ρ : Nat → Nat} {A : Nat → Prop} (hD : gD ρ A) {u : gSt} {z : gSt} (hM : M_Model_spread u = some z) : gCtV l y_Model_spread prog_13_method_41_code 5 none 0 0 cy D ρ A [.ref (ρ 42)] u z :=
  g_met (by decide) hD (Nat.le_of_ble_eq_true rfl) (fun p e s m below meth c ls X hl hP => t_Model_spread X hM (fun pc ls H locs hd hP hS => g_vret X hP hS hd) ls _ [] hl hP va_S.rf)
end
section
variable {p : Program} {l : Launch} {e : Env} {R : Room} {s : State} {m : MethodId} {args : Array Value} {below : List Frame} {meth : Method} {c : Code} {Q : State → Prop} {H0 : Heap} {cells slots : Nat} {cy : Nat → ClassId} {D : va_G} {ρ : Nat → Nat} {A : Nat → Prop}
def y_Model_genesAt : MethodName := ⟨"TermDeskModel", "genesAt", "(IZ)I"⟩
theorem gi_Model_genesAt : gMi y_Model_genesAt prog_13_method_42_code 5 (some .int) 2 8 := ⟨(gWs_at 1265 (by decide +kernel) (by decide +kernel)), (gWs_at 1264 (by decide +kernel) (by decide +kernel)), (gWs_at 87 (by decide +kernel) (by decide +kernel)), (gWs_at 125 (by decide +kernel) (by decide +kernel)), ⟨by decide +kernel, by decide +kernel, by decide +kernel⟩, _, _, rfl⟩
theorem gm_Model_239 : gMk "TermDeskModel" 239 y_Model_genesAt := Or.inl (gWs_at 1262 (by decide +kernel) (by decide +kernel))
theorem d_Model_genesAt_0 : decode prog_13_method_42_code 0 = .ok (.aload_n 0, 1) := by decide +kernel
theorem d_Model_genesAt_1 : decode prog_13_method_42_code 1 = .ok (.invokevirtual 236, 3) := by decide +kernel
theorem d_Model_genesAt_4 : decode prog_13_method_42_code 4 = .ok (.iconst 0, 1) := by decide +kernel
theorem d_Model_genesAt_5 : decode prog_13_method_42_code 5 = .ok (.istore_n 3, 1) := by decide +kernel
theorem d_Model_genesAt_6 : decode prog_13_method_42_code 6 = .ok (.iconst 0, 1) := by decide +kernel
theorem d_Model_genesAt_7 : decode prog_13_method_42_code 7 = .ok (.istore 4, 2) := by decide +kernel
theorem d_Model_genesAt_9 : decode prog_13_method_42_code 9 = .ok (.iload 4, 2) := by decide +kernel
theorem d_Model_genesAt_11 : decode prog_13_method_42_code 11 = .ok (.aload_n 0, 1) := by decide +kernel
theorem d_Model_genesAt_12 : decode prog_13_method_42_code 12 = .ok (.getfield 164, 3) := by decide +kernel
theorem d_Model_genesAt_15 : decode prog_13_method_42_code 15 = .ok (.if_icmp .ge 47, 3) := by decide +kernel
theorem d_Model_genesAt_18 : decode prog_13_method_42_code 18 = .ok (.iload_n 3, 1) := by decide +kernel
theorem d_Model_genesAt_19 : decode prog_13_method_42_code 19 = .ok (.aload_n 0, 1) := by decide +kernel
theorem d_Model_genesAt_20 : decode prog_13_method_42_code 20 = .ok (.getfield 47, 3) := by decide +kernel
theorem d_Model_genesAt_23 : decode prog_13_method_42_code 23 = .ok (.sipush 200, 3) := by decide +kernel
theorem d_Model_genesAt_26 : decode prog_13_method_42_code 26 = .ok (.iload 4, 2) := by decide +kernel
theorem d_Model_genesAt_28 : decode prog_13_method_42_code 28 = .ok (.imul, 1) := by decide +kernel
theorem d_Model_genesAt_29 : decode prog_13_method_42_code 29 = .ok (.iload_n 1, 1) := by decide +kernel
theorem d_Model_genesAt_30 : decode prog_13_method_42_code 30 = .ok (.iadd, 1) := by decide +kernel
theorem d_Model_genesAt_31 : decode prog_13_method_42_code 31 = .ok (.baload, 1) := by decide +kernel
theorem d_Model_genesAt_32 : decode prog_13_method_42_code 32 = .ok (.ifCond .eq 21, 3) := by decide +kernel
theorem d_Model_genesAt_35 : decode prog_13_method_42_code 35 = .ok (.iload_n 2, 1) := by decide +kernel
theorem d_Model_genesAt_36 : decode prog_13_method_42_code 36 = .ok (.ifCond .eq 13, 3) := by decide +kernel
theorem d_Model_genesAt_39 : decode prog_13_method_42_code 39 = .ok (.aload_n 0, 1) := by decide +kernel
theorem d_Model_genesAt_40 : decode prog_13_method_42_code 40 = .ok (.getfield 50, 3) := by decide +kernel
theorem d_Model_genesAt_43 : decode prog_13_method_42_code 43 = .ok (.iload 4, 2) := by decide +kernel
theorem d_Model_genesAt_45 : decode prog_13_method_42_code 45 = .ok (.baload, 1) := by decide +kernel
theorem d_Model_genesAt_46 : decode prog_13_method_42_code 46 = .ok (.ifCond .eq 7, 3) := by decide +kernel
theorem d_Model_genesAt_49 : decode prog_13_method_42_code 49 = .ok (.iconst 1, 1) := by decide +kernel
theorem d_Model_genesAt_50 : decode prog_13_method_42_code 50 = .ok (.goto 4, 3) := by decide +kernel
theorem d_Model_genesAt_53 : decode prog_13_method_42_code 53 = .ok (.iconst 0, 1) := by decide +kernel
theorem d_Model_genesAt_54 : decode prog_13_method_42_code 54 = .ok (.iadd, 1) := by decide +kernel
theorem d_Model_genesAt_55 : decode prog_13_method_42_code 55 = .ok (.istore_n 3, 1) := by decide +kernel
theorem d_Model_genesAt_56 : decode prog_13_method_42_code 56 = .ok (.iinc 4 1, 3) := by decide +kernel
theorem d_Model_genesAt_59 : decode prog_13_method_42_code 59 = .ok (.goto (-50), 3) := by decide +kernel
theorem d_Model_genesAt_62 : decode prog_13_method_42_code 62 = .ok (.iload_n 3, 1) := by decide +kernel
theorem d_Model_genesAt_63 : decode prog_13_method_42_code 63 = .ok (.ireturn, 1) := by decide +kernel
noncomputable def M_Model_genesAt_b54 (x1 : Int32) (x2 : Int32) (x4 : Int32) (s0 : Int32) (s1 : Int32) (u : gSt) : Option ((Int32 × Int32 × Int32 × Int32 × gSt) ⊕ ((Int32 × gSt))) :=
  some (.inl (x1, x2, s1 + s0, x4 + (1 : Int32), u))
set_option maxHeartbeats 4000000 in
set_option maxRecDepth 100000 in
theorem t_Model_genesAt_b54 (C : gX "TermDeskModel" prog_13_method_42_code 5 (some .int) 1 24 R cells slots cy D ρ A p s m args meth c) {x1 : Int32} {x2 : Int32} {x4 : Int32} {s0 : Int32} {s1 : Int32} {u : gSt} {z : (Int32 × Int32 × Int32 × Int32 × gSt) ⊕ ((Int32 × gSt))} (hM : M_Model_genesAt_b54 x1 x2 x4 s0 s1 u = some z) (hN : ∀ x1' x2' x3' x4' u', z = .inl (x1', x2', x3', x4', u') → gAt p l e R s m args below meth c Q H0 cells slots cy D ρ A 5 9 [(0, .ref (ρ 42)), (1, .int (x1')), (2, .int (x2')), (3, .int (x3')), (4, .int (x4'))] [] (u')) (hE0 : ∀ x3' u', z = .inr (x3', u') → gAt p l e R s m args below meth c Q H0 cells slots cy D ρ A 5 62 [(3, .int (x3'))] [] (u')) : gAt p l e R s m args below meth c Q H0 cells slots cy D ρ A 5 54 [(0, .ref (ρ 42)), (1, .int x1), (2, .int x2), (4, .int x4)] [.int s0, .int s1] u := by
  intro ls H locs hl hP hS
  have hx := C.1
  have hb := C.2.1
  unfold M_Model_genesAt_b54 at hM
  refine lv_iadd hx hb d_Model_genesAt_54 ?_
  refine lv_istore_n (lv' := [(3, .int (s1 + s0)), (0, .ref (ρ 42)), (1, .int x1), (2, .int x2), (4, .int x4)]) hx hb d_Model_genesAt_55 rfl hl (by decide) rfl (fun ls hl => ?_)
  refine lv_iinc (k := 4) (v := x4 + (1 : Int32)) (lv' := [(4, .int (x4 + (1 : Int32))), (3, .int (s1 + s0)), (0, .ref (ρ 42)), (1, .int x1), (2, .int x2)]) hx hb d_Model_genesAt_56 hl rfl (congrArg (fun z => x4 + z) (by decide)) (by decide) rfl (fun ls hl => ?_)
  refine lv_goto (tgt := 9) hx hb d_Model_genesAt_59 (by decide) ?_
  exact hN _ _ _ _ _ (Option.some.inj hM).symm ls H locs (lv_sub hl [2, 3, 4, 1, 0] rfl) hP hS
noncomputable def M_Model_genesAt_b53 (x1 : Int32) (x2 : Int32) (x4 : Int32) (s0 : Int32) (u : gSt) : Option ((Int32 × Int32 × Int32 × Int32 × gSt) ⊕ ((Int32 × gSt))) :=
  M_Model_genesAt_b54 x1 x2 x4 (0 : Int32) s0 u
set_option maxHeartbeats 4000000 in
set_option maxRecDepth 100000 in
theorem t_Model_genesAt_b53 (C : gX "TermDeskModel" prog_13_method_42_code 5 (some .int) 1 24 R cells slots cy D ρ A p s m args meth c) {x1 : Int32} {x2 : Int32} {x4 : Int32} {s0 : Int32} {u : gSt} {z : (Int32 × Int32 × Int32 × Int32 × gSt) ⊕ ((Int32 × gSt))} (hM : M_Model_genesAt_b53 x1 x2 x4 s0 u = some z) (hN : ∀ x1' x2' x3' x4' u', z = .inl (x1', x2', x3', x4', u') → gAt p l e R s m args below meth c Q H0 cells slots cy D ρ A 5 9 [(0, .ref (ρ 42)), (1, .int (x1')), (2, .int (x2')), (3, .int (x3')), (4, .int (x4'))] [] (u')) (hE0 : ∀ x3' u', z = .inr (x3', u') → gAt p l e R s m args below meth c Q H0 cells slots cy D ρ A 5 62 [(3, .int (x3'))] [] (u')) : gAt p l e R s m args below meth c Q H0 cells slots cy D ρ A 5 53 [(0, .ref (ρ 42)), (1, .int x1), (2, .int x2), (4, .int x4)] [.int s0] u := by
  intro ls H locs hl hP hS
  have hx := C.1
  have hb := C.2.1
  unfold M_Model_genesAt_b53 at hM
  refine lv_iconst (v := (0 : Int32)) hx hb d_Model_genesAt_53 (by decide) ?_
  exact t_Model_genesAt_b54 C hM hN hE0 ls H locs (lv_sub hl [0, 1, 2, 3] rfl) hP hS
noncomputable def M_Model_genesAt_b49 (x1 : Int32) (x2 : Int32) (x4 : Int32) (s0 : Int32) (u : gSt) : Option ((Int32 × Int32 × Int32 × Int32 × gSt) ⊕ ((Int32 × gSt))) :=
  M_Model_genesAt_b54 x1 x2 x4 (1 : Int32) s0 u
set_option maxHeartbeats 4000000 in
set_option maxRecDepth 100000 in
theorem t_Model_genesAt_b49 (C : gX "TermDeskModel" prog_13_method_42_code 5 (some .int) 1 24 R cells slots cy D ρ A p s m args meth c) {x1 : Int32} {x2 : Int32} {x4 : Int32} {s0 : Int32} {u : gSt} {z : (Int32 × Int32 × Int32 × Int32 × gSt) ⊕ ((Int32 × gSt))} (hM : M_Model_genesAt_b49 x1 x2 x4 s0 u = some z) (hN : ∀ x1' x2' x3' x4' u', z = .inl (x1', x2', x3', x4', u') → gAt p l e R s m args below meth c Q H0 cells slots cy D ρ A 5 9 [(0, .ref (ρ 42)), (1, .int (x1')), (2, .int (x2')), (3, .int (x3')), (4, .int (x4'))] [] (u')) (hE0 : ∀ x3' u', z = .inr (x3', u') → gAt p l e R s m args below meth c Q H0 cells slots cy D ρ A 5 62 [(3, .int (x3'))] [] (u')) : gAt p l e R s m args below meth c Q H0 cells slots cy D ρ A 5 49 [(0, .ref (ρ 42)), (1, .int x1), (2, .int x2), (4, .int x4)] [.int s0] u := by
  intro ls H locs hl hP hS
  have hx := C.1
  have hb := C.2.1
  unfold M_Model_genesAt_b49 at hM
  refine lv_iconst (v := (1 : Int32)) hx hb d_Model_genesAt_49 (by decide) ?_
  refine lv_goto (tgt := 54) hx hb d_Model_genesAt_50 (by decide) ?_
  exact t_Model_genesAt_b54 C hM hN hE0 ls H locs (lv_sub hl [0, 1, 2, 3] rfl) hP hS
noncomputable def M_Model_genesAt_b9 (x1 : Int32) (x2 : Int32) (x3 : Int32) (x4 : Int32) (u : gSt) : Option ((Int32 × Int32 × Int32 × Int32 × gSt) ⊕ ((Int32 × gSt))) :=
  if (u.1 42 10) ≤ x4 then
    (some (.inr (x3, u)))
  else
    (gc (gIn (((200 : Int32) * x4) + x1) (gLen 53)) <| if (u.2.2.1 53 (gIx (((200 : Int32) * x4) + x1))) = (0 : Int32) then
      (M_Model_genesAt_b53 x1 x2 x4 x3 u)
    else
      (if x2 = (0 : Int32) then
        (M_Model_genesAt_b49 x1 x2 x4 x3 u)
      else
        (gc (gIn x4 (gLen 54)) <| if (u.2.2.1 54 (gIx x4)) = (0 : Int32) then
          (M_Model_genesAt_b53 x1 x2 x4 x3 u)
        else
          (M_Model_genesAt_b49 x1 x2 x4 x3 u))))
set_option maxHeartbeats 4000000 in
set_option maxRecDepth 100000 in
theorem t_Model_genesAt_b9 (C : gX "TermDeskModel" prog_13_method_42_code 5 (some .int) 1 24 R cells slots cy D ρ A p s m args meth c) {x1 : Int32} {x2 : Int32} {x3 : Int32} {x4 : Int32} {u : gSt} {z : (Int32 × Int32 × Int32 × Int32 × gSt) ⊕ ((Int32 × gSt))} (hM : M_Model_genesAt_b9 x1 x2 x3 x4 u = some z) (hN : ∀ x1' x2' x3' x4' u', z = .inl (x1', x2', x3', x4', u') → gAt p l e R s m args below meth c Q H0 cells slots cy D ρ A 5 9 [(0, .ref (ρ 42)), (1, .int (x1')), (2, .int (x2')), (3, .int (x3')), (4, .int (x4'))] [] (u')) (hE0 : ∀ x3' u', z = .inr (x3', u') → gAt p l e R s m args below meth c Q H0 cells slots cy D ρ A 5 62 [(3, .int (x3'))] [] (u')) : gAt p l e R s m args below meth c Q H0 cells slots cy D ρ A 5 9 [(0, .ref (ρ 42)), (1, .int x1), (2, .int x2), (3, .int x3), (4, .int x4)] [] u := by
  intro ls H locs hl hP hS
  have hx := C.1
  have hb := C.2.1
  unfold M_Model_genesAt_b9 at hM
  refine lv_iload hx hb d_Model_genesAt_9 (lv_at hl 4 rfl) ?_
  refine lv_aload_n hx hb d_Model_genesAt_11 rfl (lv_at hl 0 rfl) ?_
  refine g_getI C hP gl_DeskModel_164 rfl rfl d_Model_genesAt_12 ?_
  refine lv_icmp_ge (tgt := 62) hx hb d_Model_genesAt_15 (by decide) (fun hc15 => ?_) (fun hc15 => ?_)
  · replace hM := gi_t hc15 hM
    exact hE0 _ _ (Option.some.inj hM).symm ls H locs (lv_sub hl [3] rfl) hP hS
  · replace hM := gi_f hc15 hM
    refine lv_iload_n hx hb d_Model_genesAt_18 rfl (lv_at hl 3 rfl) ?_
    refine lv_aload_n hx hb d_Model_genesAt_19 rfl (lv_at hl 0 rfl) ?_
    refine g_getR (b := 53) C hP gl_DeskModel_47 rfl rfl rfl d_Model_genesAt_20 ?_
    refine lv_sipush (v := (200 : Int32)) hx hb d_Model_genesAt_23 (by decide) ?_
    refine lv_iload hx hb d_Model_genesAt_26 (lv_at hl 4 rfl) ?_
    refine lv_imul hx hb d_Model_genesAt_28 ?_
    refine lv_iload_n hx hb d_Model_genesAt_29 rfl (lv_at hl 1 rfl) ?_
    refine lv_iadd hx hb d_Model_genesAt_30 ?_
    obtain ⟨hi31, hM⟩ := gc_some hM
    refine g_zald C hP rfl hi31 d_Model_genesAt_31 ?_
    refine lv_if_eq (tgt := 53) hx hb d_Model_genesAt_32 (by decide) (fun hc32 => ?_) (fun hc32 => ?_)
    · replace hM := gi_t hc32 hM
      exact t_Model_genesAt_b53 C hM hN hE0 ls H locs (lv_sub hl [0, 1, 2, 4] rfl) hP hS
    · replace hM := gi_f hc32 hM
      refine lv_iload_n hx hb d_Model_genesAt_35 rfl (lv_at hl 2 rfl) ?_
      refine lv_if_eq (tgt := 49) hx hb d_Model_genesAt_36 (by decide) (fun hc36 => ?_) (fun hc36 => ?_)
      · replace hM := gi_t hc36 hM
        exact t_Model_genesAt_b49 C hM hN hE0 ls H locs (lv_sub hl [0, 1, 2, 4] rfl) hP hS
      · replace hM := gi_f hc36 hM
        refine lv_aload_n hx hb d_Model_genesAt_39 rfl (lv_at hl 0 rfl) ?_
        refine g_getR (b := 54) C hP gl_DeskModel_50 rfl rfl rfl d_Model_genesAt_40 ?_
        refine lv_iload hx hb d_Model_genesAt_43 (lv_at hl 4 rfl) ?_
        obtain ⟨hi45, hM⟩ := gc_some hM
        refine g_zald C hP rfl hi45 d_Model_genesAt_45 ?_
        refine lv_if_eq (tgt := 53) hx hb d_Model_genesAt_46 (by decide) (fun hc46 => ?_) (fun hc46 => ?_)
        · replace hM := gi_t hc46 hM
          exact t_Model_genesAt_b53 C hM hN hE0 ls H locs (lv_sub hl [0, 1, 2, 4] rfl) hP hS
        · replace hM := gi_f hc46 hM
          exact t_Model_genesAt_b49 C hM hN hE0 ls H locs (lv_sub hl [0, 1, 2, 4] rfl) hP hS
noncomputable def M_Model_genesAt_L9 : (Int32 × Int32 × Int32 × Int32 × gSt) → Option ((Int32 × Int32 × Int32 × Int32 × gSt) ⊕ ((Int32 × gSt))) := fun x => M_Model_genesAt_b9 x.1 x.2.1 x.2.2.1 x.2.2.2.1 x.2.2.2.2
theorem t_Model_genesAt_L9 (C : gX "TermDeskModel" prog_13_method_42_code 5 (some .int) 1 24 R cells slots cy D ρ A p s m args meth c) {x1 : Int32} {x2 : Int32} {x3 : Int32} {x4 : Int32} {u : gSt} {yy : (Int32 × gSt)} (hL : gLp M_Model_genesAt_L9 (x1, x2, x3, x4, u) = some yy) (hE0 : (∀ y', yy = y' → gAt p l e R s m args below meth c Q H0 cells slots cy D ρ A 5 62 [(3, .int (y'.1))] [] (y'.2))) : gAt p l e R s m args below meth c Q H0 cells slots cy D ρ A 5 9 [(0, .ref (ρ 42)), (1, .int x1), (2, .int x2), (3, .int x3), (4, .int x4)] [] u :=
  g_loop (f := M_Model_genesAt_L9) (P := fun x => gAt p l e R s m args below meth c Q H0 cells slots cy D ρ A 5 9 [(0, .ref (ρ 42)), (1, .int x.1), (2, .int x.2.1), (3, .int x.2.2.1), (4, .int x.2.2.2.1)] [] x.2.2.2.2) (E := fun yy => (∀ y', yy = y' → gAt p l e R s m args below meth c Q H0 cells slots cy D ρ A 5 62 [(3, .int (y'.1))] [] (y'.2))) (fun x z hf hN hE => t_Model_genesAt_b9 C hf (fun x1' x2' x3' x4' u' h => hN (x1', x2', x3', x4', u') h) (fun x3' u' h => (hE _ h) (x3', u') rfl)) hL hE0
noncomputable def M_Model_genesAt (x1 : Int32) (x2 : Int32) (u : gSt) : Option ((Int32 × gSt)) :=
  (M_Model_spread u).bind fun q1 =>
  (gLp M_Model_genesAt_L9 (x1, x2, (0 : Int32), (0 : Int32), q1)).bind fun y9 =>
  some (y9.1, y9.2)
set_option maxHeartbeats 4000000 in
set_option maxRecDepth 100000 in
theorem t_Model_genesAt (C : gX "TermDeskModel" prog_13_method_42_code 5 (some .int) 1 24 R cells slots cy D ρ A p s m args meth c) {x1 : Int32} {x2 : Int32} {u : gSt} {z : (Int32 × gSt)} (hM : M_Model_genesAt x1 x2 u = some z) (hR : gRtI p l e R s m args below meth c Q H0 cells slots cy D ρ A prog_13_method_42_code z.1 z.2) : gAt p l e R s m args below meth c Q H0 cells slots cy D ρ A 5 0 [(0, .ref (ρ 42)), (1, .int x1), (2, .int x2)] [] u := by
  intro ls H locs hl hP hS
  have hx := C.1
  have hb := C.2.1
  unfold M_Model_genesAt at hM
  refine lv_aload_n hx hb d_Model_genesAt_0 rfl (lv_at hl 0 rfl) ?_
  obtain ⟨q1, hq1, hM⟩ := gb_some hM
  refine g_backV (g_runV (As := []) C hP (c_Model_spread C.2.2.2.2.2.2.2.2.1 hq1) gi_Model_spread gm_Model_236 rfl rfl (by decide) (by decide) hl.1 rfl (Nat.le_of_ble_eq_true rfl) d_Model_genesAt_1) hS (fun H locs hP hS => ?_)
  refine lv_iconst (v := (0 : Int32)) hx hb d_Model_genesAt_4 (by decide) ?_
  refine lv_istore_n (lv' := [(3, .int (0 : Int32)), (0, .ref (ρ 42)), (1, .int x1), (2, .int x2)]) hx hb d_Model_genesAt_5 rfl hl (by decide) rfl (fun ls hl => ?_)
  refine lv_iconst (v := (0 : Int32)) hx hb d_Model_genesAt_6 (by decide) ?_
  refine lv_istore (lv' := [(4, .int (0 : Int32)), (3, .int (0 : Int32)), (0, .ref (ρ 42)), (1, .int x1), (2, .int x2)]) hx hb d_Model_genesAt_7 hl (by decide) rfl (fun ls hl => ?_)
  obtain ⟨y9, hL9, hM⟩ := gb_some hM
  refine t_Model_genesAt_L9 C hL9 (fun y9_0 hy => ?_) ls H locs (lv_sub hl [2, 3, 4, 1, 0] rfl) hP hS
  · subst hy
    intro ls H locs hl hP hS
    refine lv_iload_n hx hb d_Model_genesAt_62 rfl (lv_at hl 0 rfl) ?_
    obtain rfl := Option.some.inj hM
    exact hR _ ls H locs d_Model_genesAt_63 hP hS
theorem c_Model_genesAt {l : Launch} {cy : Nat → ClassId} {D : va_G} {ρ : Nat → Nat} {A : Nat → Prop} (hD : gD ρ A) {x1 : Int32} {x2 : Int32} {u : gSt} {z : (Int32 × gSt)} (hM : M_Model_genesAt x1 x2 u = some z) : gCtI l y_Model_genesAt prog_13_method_42_code 5 (some .int) 1 24 cy D ρ A [.ref (ρ 42), .int x1, .int x2] u z.1 z.2 :=
  g_met (by decide) hD (Nat.le_of_ble_eq_true rfl) (fun p e s m below meth c ls X hl hP => t_Model_genesAt X hM (fun pc ls H locs hd hP hS => g_iret X hP hS hd) ls _ [] hl hP va_S.rf)
end
section
variable {p : Program} {l : Launch} {e : Env} {R : Room} {s : State} {m : MethodId} {args : Array Value} {below : List Frame} {meth : Method} {c : Code} {Q : State → Prop} {H0 : Heap} {cells slots : Nat} {cy : Nat → ClassId} {D : va_G} {ρ : Nat → Nat} {A : Nat → Prop}
def y_Model_isCandidate : MethodName := ⟨"TermDeskModel", "isCandidate", "(I)Z"⟩
theorem gi_Model_isCandidate : gMi y_Model_isCandidate prog_13_method_43_code 2 (some .boolean) 1 8 := ⟨(gWs_at 1261 (by decide +kernel) (by decide +kernel)), (gWs_at 1260 (by decide +kernel) (by decide +kernel)), (gWs_at 86 (by decide +kernel) (by decide +kernel)), (gWs_at 125 (by decide +kernel) (by decide +kernel)), ⟨by decide +kernel, by decide +kernel, by decide +kernel⟩, _, _, rfl⟩
theorem gm_Model_243 : gMk "TermDeskModel" 243 y_Model_isCandidate := Or.inl (gWs_at 1258 (by decide +kernel) (by decide +kernel))
theorem d_Model_isCandidate_0 : decode prog_13_method_43_code 0 = .ok (.aload_n 0, 1) := by decide +kernel
theorem d_Model_isCandidate_1 : decode prog_13_method_43_code 1 = .ok (.getfield 34, 3) := by decide +kernel
theorem d_Model_isCandidate_4 : decode prog_13_method_43_code 4 = .ok (.iload_n 1, 1) := by decide +kernel
theorem d_Model_isCandidate_5 : decode prog_13_method_43_code 5 = .ok (.iaload, 1) := by decide +kernel
theorem d_Model_isCandidate_6 : decode prog_13_method_43_code 6 = .ok (.ifCond .ne 16, 3) := by decide +kernel
theorem d_Model_isCandidate_9 : decode prog_13_method_43_code 9 = .ok (.aload_n 0, 1) := by decide +kernel
theorem d_Model_isCandidate_10 : decode prog_13_method_43_code 10 = .ok (.iload_n 1, 1) := by decide +kernel
theorem d_Model_isCandidate_11 : decode prog_13_method_43_code 11 = .ok (.iconst 1, 1) := by decide +kernel
theorem d_Model_isCandidate_12 : decode prog_13_method_43_code 12 = .ok (.invokevirtual 239, 3) := by decide +kernel
theorem d_Model_isCandidate_15 : decode prog_13_method_43_code 15 = .ok (.ifCond .le 7, 3) := by decide +kernel
theorem d_Model_isCandidate_18 : decode prog_13_method_43_code 18 = .ok (.iconst 1, 1) := by decide +kernel
theorem d_Model_isCandidate_19 : decode prog_13_method_43_code 19 = .ok (.goto 4, 3) := by decide +kernel
theorem d_Model_isCandidate_22 : decode prog_13_method_43_code 22 = .ok (.iconst 0, 1) := by decide +kernel
theorem d_Model_isCandidate_23 : decode prog_13_method_43_code 23 = .ok (.ireturn, 1) := by decide +kernel
noncomputable def M_Model_isCandidate_b23 (s0 : Int32) (u : gSt) : Option ((Int32 × gSt)) :=
  gc (gZ s0) <| some (s0, u)
set_option maxHeartbeats 4000000 in
set_option maxRecDepth 100000 in
theorem t_Model_isCandidate_b23 (C : gX "TermDeskModel" prog_13_method_43_code 2 (some .boolean) 2 48 R cells slots cy D ρ A p s m args meth c) {s0 : Int32} {u : gSt} {z : (Int32 × gSt)} (hM : M_Model_isCandidate_b23 s0 u = some z) (hR : gRtZ p l e R s m args below meth c Q H0 cells slots cy D ρ A prog_13_method_43_code z.1 z.2) : gAt p l e R s m args below meth c Q H0 cells slots cy D ρ A 2 23 [] [.int s0] u := by
  intro ls H locs hl hP hS
  have hx := C.1
  have hb := C.2.1
  unfold M_Model_isCandidate_b23 at hM
  obtain ⟨hz23, hM⟩ := gc_some hM
  obtain rfl := Option.some.inj hM
  exact hR _ ls H locs hz23 d_Model_isCandidate_23 hP hS
noncomputable def M_Model_isCandidate_b22 (u : gSt) : Option ((Int32 × gSt)) :=
  M_Model_isCandidate_b23 (0 : Int32) u
set_option maxHeartbeats 4000000 in
set_option maxRecDepth 100000 in
theorem t_Model_isCandidate_b22 (C : gX "TermDeskModel" prog_13_method_43_code 2 (some .boolean) 2 48 R cells slots cy D ρ A p s m args meth c) {u : gSt} {z : (Int32 × gSt)} (hM : M_Model_isCandidate_b22 u = some z) (hR : gRtZ p l e R s m args below meth c Q H0 cells slots cy D ρ A prog_13_method_43_code z.1 z.2) : gAt p l e R s m args below meth c Q H0 cells slots cy D ρ A 2 22 [] [] u := by
  intro ls H locs hl hP hS
  have hx := C.1
  have hb := C.2.1
  unfold M_Model_isCandidate_b22 at hM
  refine lv_iconst (v := (0 : Int32)) hx hb d_Model_isCandidate_22 (by decide) ?_
  exact t_Model_isCandidate_b23 C hM hR ls H locs (lv_sub hl [] rfl) hP hS
noncomputable def M_Model_isCandidate (x1 : Int32) (u : gSt) : Option ((Int32 × gSt)) :=
  gc (gIn x1 (gLen 49)) <| if (u.2.2.1 49 (gIx x1)) = (0 : Int32) then
    ((M_Model_genesAt x1 (1 : Int32) u).bind fun q12 =>
    if q12.1 ≤ (0 : Int32) then
      (M_Model_isCandidate_b22 q12.2)
    else
      (M_Model_isCandidate_b23 (1 : Int32) q12.2))
  else
    (M_Model_isCandidate_b22 u)
set_option maxHeartbeats 4000000 in
set_option maxRecDepth 100000 in
theorem t_Model_isCandidate (C : gX "TermDeskModel" prog_13_method_43_code 2 (some .boolean) 2 48 R cells slots cy D ρ A p s m args meth c) {x1 : Int32} {u : gSt} {z : (Int32 × gSt)} (hM : M_Model_isCandidate x1 u = some z) (hR : gRtZ p l e R s m args below meth c Q H0 cells slots cy D ρ A prog_13_method_43_code z.1 z.2) : gAt p l e R s m args below meth c Q H0 cells slots cy D ρ A 2 0 [(0, .ref (ρ 42)), (1, .int x1)] [] u := by
  intro ls H locs hl hP hS
  have hx := C.1
  have hb := C.2.1
  unfold M_Model_isCandidate at hM
  refine lv_aload_n hx hb d_Model_isCandidate_0 rfl (lv_at hl 0 rfl) ?_
  refine g_getR (b := 49) C hP gl_DeskModel_34 rfl rfl rfl d_Model_isCandidate_1 ?_
  refine lv_iload_n hx hb d_Model_isCandidate_4 rfl (lv_at hl 1 rfl) ?_
  obtain ⟨hi5, hM⟩ := gc_some hM
  refine g_iald C hP rfl hi5 d_Model_isCandidate_5 ?_
  refine lv_if_ne (tgt := 22) hx hb d_Model_isCandidate_6 (by decide) (fun hc6 => ?_) (fun hc6 => ?_)
  · replace hM := gi_f hc6 hM
    exact t_Model_isCandidate_b22 C hM hR ls H locs (lv_sub hl [] rfl) hP hS
  · replace hM := gi_t hc6 hM
    refine lv_aload_n hx hb d_Model_isCandidate_9 rfl (lv_at hl 0 rfl) ?_
    refine lv_iload_n hx hb d_Model_isCandidate_10 rfl (lv_at hl 1 rfl) ?_
    refine lv_iconst (v := (1 : Int32)) hx hb d_Model_isCandidate_11 (by decide) ?_
    obtain ⟨q12, hq12, hM⟩ := gb_some hM
    refine g_backI (g_runV (As := [.int x1, .int (1 : Int32)]) C hP (c_Model_genesAt C.2.2.2.2.2.2.2.2.1 hq12) gi_Model_genesAt gm_Model_239 rfl rfl (by decide) (by decide) hl.1 rfl (Nat.le_of_ble_eq_true rfl) d_Model_isCandidate_12) hS (fun H locs hP hS => ?_)
    refine lv_if_le (tgt := 22) hx hb d_Model_isCandidate_15 (by decide) (fun hc15 => ?_) (fun hc15 => ?_)
    · replace hM := gi_t hc15 hM
      exact t_Model_isCandidate_b22 C hM hR ls H locs (lv_sub hl [] rfl) hP hS
    · replace hM := gi_f hc15 hM
      refine lv_iconst (v := (1 : Int32)) hx hb d_Model_isCandidate_18 (by decide) ?_
      refine lv_goto (tgt := 23) hx hb d_Model_isCandidate_19 (by decide) ?_
      exact t_Model_isCandidate_b23 C hM hR ls H locs (lv_sub hl [] rfl) hP hS
theorem c_Model_isCandidate {l : Launch} {cy : Nat → ClassId} {D : va_G} {ρ : Nat → Nat} {A : Nat → Prop} (hD : gD ρ A) {x1 : Int32} {u : gSt} {z : (Int32 × gSt)} (hM : M_Model_isCandidate x1 u = some z) : gCtI l y_Model_isCandidate prog_13_method_43_code 2 (some .boolean) 2 48 cy D ρ A [.ref (ρ 42), .int x1] u z.1 z.2 :=
  g_met (by decide) hD (Nat.le_of_ble_eq_true rfl) (fun p e s m below meth c ls X hl hP => t_Model_isCandidate X hM (fun pc ls H locs hz hd hP hS => g_zret X hP hS hz hd) ls _ [] hl hP va_S.rf)
end
section
variable {p : Program} {l : Launch} {e : Env} {R : Room} {s : State} {m : MethodId} {args : Array Value} {below : List Frame} {meth : Method} {c : Code} {Q : State → Prop} {H0 : Heap} {cells slots : Nat} {cy : Nat → ClassId} {D : va_G} {ρ : Nat → Nat} {A : Nat → Prop}
def y_Model_about : MethodName := ⟨"TermDeskModel", "about", "(I)I"⟩
theorem gi_Model_about : gMi y_Model_about prog_13_method_44_code 4 (some .int) 1 8 := ⟨(gWs_at 1257 (by decide +kernel) (by decide +kernel)), (gWs_at 1255 (by decide +kernel) (by decide +kernel)), (gWs_at 1256 (by decide +kernel) (by decide +kernel)), (gWs_at 125 (by decide +kernel) (by decide +kernel)), ⟨by decide +kernel, by decide +kernel, by decide +kernel⟩, _, _, rfl⟩
theorem gm_Law_81 : gMk "TermDeskLaw" 81 y_Model_about := Or.inl (gWs_at 1254 (by decide +kernel) (by decide +kernel))
theorem d_Model_about_0 : decode prog_13_method_44_code 0 = .ok (.aload_n 0, 1) := by decide +kernel
theorem d_Model_about_1 : decode prog_13_method_44_code 1 = .ok (.iload_n 1, 1) := by decide +kernel
theorem d_Model_about_2 : decode prog_13_method_44_code 2 = .ok (.ifCond .lt 9, 3) := by decide +kernel
theorem d_Model_about_5 : decode prog_13_method_44_code 5 = .ok (.iload_n 1, 1) := by decide +kernel
theorem d_Model_about_6 : decode prog_13_method_44_code 6 = .ok (.bipush 7, 2) := by decide +kernel
theorem d_Model_about_8 : decode prog_13_method_44_code 8 = .ok (.if_icmp .le 7, 3) := by decide +kernel
theorem d_Model_about_11 : decode prog_13_method_44_code 11 = .ok (.iconst 1, 1) := by decide +kernel
theorem d_Model_about_12 : decode prog_13_method_44_code 12 = .ok (.goto 4, 3) := by decide +kernel
theorem d_Model_about_15 : decode prog_13_method_44_code 15 = .ok (.iconst 0, 1) := by decide +kernel
theorem d_Model_about_16 : decode prog_13_method_44_code 16 = .ok (.iconst 1, 1) := by decide +kernel
theorem d_Model_about_17 : decode prog_13_method_44_code 17 = .ok (.invokevirtual 133, 3) := by decide +kernel
theorem d_Model_about_20 : decode prog_13_method_44_code 20 = .ok (.ifCond .eq 5, 3) := by decide +kernel
theorem d_Model_about_23 : decode prog_13_method_44_code 23 = .ok (.iconst 0, 1) := by decide +kernel
theorem d_Model_about_24 : decode prog_13_method_44_code 24 = .ok (.ireturn, 1) := by decide +kernel
theorem d_Model_about_25 : decode prog_13_method_44_code 25 = .ok (.iconst 0, 1) := by decide +kernel
theorem d_Model_about_26 : decode prog_13_method_44_code 26 = .ok (.istore_n 2, 1) := by decide +kernel
theorem d_Model_about_27 : decode prog_13_method_44_code 27 = .ok (.iconst 0, 1) := by decide +kernel
theorem d_Model_about_28 : decode prog_13_method_44_code 28 = .ok (.istore_n 3, 1) := by decide +kernel
theorem d_Model_about_29 : decode prog_13_method_44_code 29 = .ok (.iload_n 3, 1) := by decide +kernel
theorem d_Model_about_30 : decode prog_13_method_44_code 30 = .ok (.aload_n 0, 1) := by decide +kernel
theorem d_Model_about_31 : decode prog_13_method_44_code 31 = .ok (.getfield 184, 3) := by decide +kernel
theorem d_Model_about_34 : decode prog_13_method_44_code 34 = .ok (.if_icmp .ge 30, 3) := by decide +kernel
theorem d_Model_about_37 : decode prog_13_method_44_code 37 = .ok (.iload_n 1, 1) := by decide +kernel
theorem d_Model_about_38 : decode prog_13_method_44_code 38 = .ok (.iconst 3, 1) := by decide +kernel
theorem d_Model_about_39 : decode prog_13_method_44_code 39 = .ok (.if_icmp .ne 25, 3) := by decide +kernel
theorem d_Model_about_42 : decode prog_13_method_44_code 42 = .ok (.iload_n 2, 1) := by decide +kernel
theorem d_Model_about_43 : decode prog_13_method_44_code 43 = .ok (.aload_n 0, 1) := by decide +kernel
theorem d_Model_about_44 : decode prog_13_method_44_code 44 = .ok (.iload_n 3, 1) := by decide +kernel
theorem d_Model_about_45 : decode prog_13_method_44_code 45 = .ok (.invokevirtual 243, 3) := by decide +kernel
theorem d_Model_about_48 : decode prog_13_method_44_code 48 = .ok (.ifCond .eq 7, 3) := by decide +kernel
theorem d_Model_about_51 : decode prog_13_method_44_code 51 = .ok (.iconst 1, 1) := by decide +kernel
theorem d_Model_about_52 : decode prog_13_method_44_code 52 = .ok (.goto 4, 3) := by decide +kernel
theorem d_Model_about_55 : decode prog_13_method_44_code 55 = .ok (.iconst 0, 1) := by decide +kernel
theorem d_Model_about_56 : decode prog_13_method_44_code 56 = .ok (.iadd, 1) := by decide +kernel
theorem d_Model_about_57 : decode prog_13_method_44_code 57 = .ok (.istore_n 2, 1) := by decide +kernel
theorem d_Model_about_58 : decode prog_13_method_44_code 58 = .ok (.iinc 3 1, 3) := by decide +kernel
theorem d_Model_about_61 : decode prog_13_method_44_code 61 = .ok (.goto (-32), 3) := by decide +kernel
theorem d_Model_about_64 : decode prog_13_method_44_code 64 = .ok (.iload_n 1, 1) := by decide +kernel
theorem d_Model_about_65 : decode prog_13_method_44_code 65 = .ok (.tableswitch 75 0 6 #[43, 48, 53, 58, 60, 65, 70], 43) := by decide +kernel
theorem d_Model_about_108 : decode prog_13_method_44_code 108 = .ok (.aload_n 0, 1) := by decide +kernel
theorem d_Model_about_109 : decode prog_13_method_44_code 109 = .ok (.getfield 184, 3) := by decide +kernel
theorem d_Model_about_112 : decode prog_13_method_44_code 112 = .ok (.ireturn, 1) := by decide +kernel
theorem d_Model_about_113 : decode prog_13_method_44_code 113 = .ok (.aload_n 0, 1) := by decide +kernel
theorem d_Model_about_114 : decode prog_13_method_44_code 114 = .ok (.getfield 164, 3) := by decide +kernel
theorem d_Model_about_117 : decode prog_13_method_44_code 117 = .ok (.ireturn, 1) := by decide +kernel
theorem d_Model_about_118 : decode prog_13_method_44_code 118 = .ok (.aload_n 0, 1) := by decide +kernel
theorem d_Model_about_119 : decode prog_13_method_44_code 119 = .ok (.getfield 230, 3) := by decide +kernel
theorem d_Model_about_122 : decode prog_13_method_44_code 122 = .ok (.ireturn, 1) := by decide +kernel
theorem d_Model_about_123 : decode prog_13_method_44_code 123 = .ok (.iload_n 2, 1) := by decide +kernel
theorem d_Model_about_124 : decode prog_13_method_44_code 124 = .ok (.ireturn, 1) := by decide +kernel
theorem d_Model_about_125 : decode prog_13_method_44_code 125 = .ok (.aload_n 0, 1) := by decide +kernel
theorem d_Model_about_126 : decode prog_13_method_44_code 126 = .ok (.getfield 246, 3) := by decide +kernel
theorem d_Model_about_129 : decode prog_13_method_44_code 129 = .ok (.ireturn, 1) := by decide +kernel
theorem d_Model_about_130 : decode prog_13_method_44_code 130 = .ok (.aload_n 0, 1) := by decide +kernel
theorem d_Model_about_131 : decode prog_13_method_44_code 131 = .ok (.getfield 197, 3) := by decide +kernel
theorem d_Model_about_134 : decode prog_13_method_44_code 134 = .ok (.ireturn, 1) := by decide +kernel
theorem d_Model_about_135 : decode prog_13_method_44_code 135 = .ok (.aload_n 0, 1) := by decide +kernel
theorem d_Model_about_136 : decode prog_13_method_44_code 136 = .ok (.getfield 207, 3) := by decide +kernel
theorem d_Model_about_139 : decode prog_13_method_44_code 139 = .ok (.ireturn, 1) := by decide +kernel
theorem d_Model_about_140 : decode prog_13_method_44_code 140 = .ok (.aload_n 0, 1) := by decide +kernel
theorem d_Model_about_141 : decode prog_13_method_44_code 141 = .ok (.getfield 157, 3) := by decide +kernel
theorem d_Model_about_144 : decode prog_13_method_44_code 144 = .ok (.ireturn, 1) := by decide +kernel
noncomputable def M_Model_about_b56 (x1 : Int32) (x3 : Int32) (s0 : Int32) (s1 : Int32) (u : gSt) : Option ((Int32 × Int32 × Int32 × gSt) ⊕ ((Int32 × Int32 × gSt))) :=
  some (.inl (x1, s1 + s0, x3 + (1 : Int32), u))
set_option maxHeartbeats 4000000 in
set_option maxRecDepth 100000 in
theorem t_Model_about_b56 (C : gX "TermDeskModel" prog_13_method_44_code 4 (some .int) 3 69 R cells slots cy D ρ A p s m args meth c) {x1 : Int32} {x3 : Int32} {s0 : Int32} {s1 : Int32} {u : gSt} {z : (Int32 × Int32 × Int32 × gSt) ⊕ ((Int32 × Int32 × gSt))} (hM : M_Model_about_b56 x1 x3 s0 s1 u = some z) (hN : ∀ x1' x2' x3' u', z = .inl (x1', x2', x3', u') → gAt p l e R s m args below meth c Q H0 cells slots cy D ρ A 4 29 [(0, .ref (ρ 42)), (1, .int (x1')), (2, .int (x2')), (3, .int (x3'))] [] (u')) (hE0 : ∀ x1' x2' u', z = .inr (x1', x2', u') → gAt p l e R s m args below meth c Q H0 cells slots cy D ρ A 4 64 [(0, .ref (ρ 42)), (1, .int (x1')), (2, .int (x2'))] [] (u')) : gAt p l e R s m args below meth c Q H0 cells slots cy D ρ A 4 56 [(0, .ref (ρ 42)), (1, .int x1), (3, .int x3)] [.int s0, .int s1] u := by
  intro ls H locs hl hP hS
  have hx := C.1
  have hb := C.2.1
  unfold M_Model_about_b56 at hM
  refine lv_iadd hx hb d_Model_about_56 ?_
  refine lv_istore_n (lv' := [(2, .int (s1 + s0)), (0, .ref (ρ 42)), (1, .int x1), (3, .int x3)]) hx hb d_Model_about_57 rfl hl (by decide) rfl (fun ls hl => ?_)
  refine lv_iinc (k := 3) (v := x3 + (1 : Int32)) (lv' := [(3, .int (x3 + (1 : Int32))), (2, .int (s1 + s0)), (0, .ref (ρ 42)), (1, .int x1)]) hx hb d_Model_about_58 hl rfl (congrArg (fun z => x3 + z) (by decide)) (by decide) rfl (fun ls hl => ?_)
  refine lv_goto (tgt := 29) hx hb d_Model_about_61 (by decide) ?_
  exact hN _ _ _ _ (Option.some.inj hM).symm ls H locs (lv_sub hl [2, 3, 1, 0] rfl) hP hS
noncomputable def M_Model_about_b29 (x1 : Int32) (x2 : Int32) (x3 : Int32) (u : gSt) : Option ((Int32 × Int32 × Int32 × gSt) ⊕ ((Int32 × Int32 × gSt))) :=
  if (u.1 42 11) ≤ x3 then
    (some (.inr (x1, x2, u)))
  else
    (if x1 = (3 : Int32) then
      ((M_Model_isCandidate x3 u).bind fun q45 =>
      if q45.1 = (0 : Int32) then
        (M_Model_about_b56 x1 x3 (0 : Int32) x2 q45.2)
      else
        (M_Model_about_b56 x1 x3 (1 : Int32) x2 q45.2))
    else
      (some (.inr (x1, x2, u))))
set_option maxHeartbeats 4000000 in
set_option maxRecDepth 100000 in
theorem t_Model_about_b29 (C : gX "TermDeskModel" prog_13_method_44_code 4 (some .int) 3 69 R cells slots cy D ρ A p s m args meth c) {x1 : Int32} {x2 : Int32} {x3 : Int32} {u : gSt} {z : (Int32 × Int32 × Int32 × gSt) ⊕ ((Int32 × Int32 × gSt))} (hM : M_Model_about_b29 x1 x2 x3 u = some z) (hN : ∀ x1' x2' x3' u', z = .inl (x1', x2', x3', u') → gAt p l e R s m args below meth c Q H0 cells slots cy D ρ A 4 29 [(0, .ref (ρ 42)), (1, .int (x1')), (2, .int (x2')), (3, .int (x3'))] [] (u')) (hE0 : ∀ x1' x2' u', z = .inr (x1', x2', u') → gAt p l e R s m args below meth c Q H0 cells slots cy D ρ A 4 64 [(0, .ref (ρ 42)), (1, .int (x1')), (2, .int (x2'))] [] (u')) : gAt p l e R s m args below meth c Q H0 cells slots cy D ρ A 4 29 [(0, .ref (ρ 42)), (1, .int x1), (2, .int x2), (3, .int x3)] [] u := by
  intro ls H locs hl hP hS
  have hx := C.1
  have hb := C.2.1
  unfold M_Model_about_b29 at hM
  refine lv_iload_n hx hb d_Model_about_29 rfl (lv_at hl 3 rfl) ?_
  refine lv_aload_n hx hb d_Model_about_30 rfl (lv_at hl 0 rfl) ?_
  refine g_getI C hP gl_DeskModel_184 rfl rfl d_Model_about_31 ?_
  refine lv_icmp_ge (tgt := 64) hx hb d_Model_about_34 (by decide) (fun hc34 => ?_) (fun hc34 => ?_)
  · replace hM := gi_t hc34 hM
    exact hE0 _ _ _ (Option.some.inj hM).symm ls H locs (lv_sub hl [0, 1, 2] rfl) hP hS
  · replace hM := gi_f hc34 hM
    refine lv_iload_n hx hb d_Model_about_37 rfl (lv_at hl 1 rfl) ?_
    refine lv_iconst (v := (3 : Int32)) hx hb d_Model_about_38 (by decide) ?_
    refine lv_icmp_ne (tgt := 64) hx hb d_Model_about_39 (by decide) (fun hc39 => ?_) (fun hc39 => ?_)
    · replace hM := gi_f hc39 hM
      exact hE0 _ _ _ (Option.some.inj hM).symm ls H locs (lv_sub hl [0, 1, 2] rfl) hP hS
    · replace hM := gi_t hc39 hM
      refine lv_iload_n hx hb d_Model_about_42 rfl (lv_at hl 2 rfl) ?_
      refine lv_aload_n hx hb d_Model_about_43 rfl (lv_at hl 0 rfl) ?_
      refine lv_iload_n hx hb d_Model_about_44 rfl (lv_at hl 3 rfl) ?_
      obtain ⟨q45, hq45, hM⟩ := gb_some hM
      refine g_backI (g_runV (As := [.int x3]) C hP (c_Model_isCandidate C.2.2.2.2.2.2.2.2.1 hq45) gi_Model_isCandidate gm_Model_243 rfl rfl (by decide) (by decide) hl.1 rfl (Nat.le_of_ble_eq_true rfl) d_Model_about_45) hS (fun H locs hP hS => ?_)
      refine lv_if_eq (tgt := 55) hx hb d_Model_about_48 (by decide) (fun hc48 => ?_) (fun hc48 => ?_)
      · replace hM := gi_t hc48 hM
        refine lv_iconst (v := (0 : Int32)) hx hb d_Model_about_55 (by decide) ?_
        exact t_Model_about_b56 C hM hN hE0 ls H locs (lv_sub hl [0, 1, 3] rfl) hP hS
      · replace hM := gi_f hc48 hM
        refine lv_iconst (v := (1 : Int32)) hx hb d_Model_about_51 (by decide) ?_
        refine lv_goto (tgt := 56) hx hb d_Model_about_52 (by decide) ?_
        exact t_Model_about_b56 C hM hN hE0 ls H locs (lv_sub hl [0, 1, 3] rfl) hP hS
noncomputable def M_Model_about_L29 : (Int32 × Int32 × Int32 × gSt) → Option ((Int32 × Int32 × Int32 × gSt) ⊕ ((Int32 × Int32 × gSt))) := fun x => M_Model_about_b29 x.1 x.2.1 x.2.2.1 x.2.2.2
theorem t_Model_about_L29 (C : gX "TermDeskModel" prog_13_method_44_code 4 (some .int) 3 69 R cells slots cy D ρ A p s m args meth c) {x1 : Int32} {x2 : Int32} {x3 : Int32} {u : gSt} {yy : (Int32 × Int32 × gSt)} (hL : gLp M_Model_about_L29 (x1, x2, x3, u) = some yy) (hE0 : (∀ y', yy = y' → gAt p l e R s m args below meth c Q H0 cells slots cy D ρ A 4 64 [(0, .ref (ρ 42)), (1, .int (y'.1)), (2, .int (y'.2.1))] [] (y'.2.2))) : gAt p l e R s m args below meth c Q H0 cells slots cy D ρ A 4 29 [(0, .ref (ρ 42)), (1, .int x1), (2, .int x2), (3, .int x3)] [] u :=
  g_loop (f := M_Model_about_L29) (P := fun x => gAt p l e R s m args below meth c Q H0 cells slots cy D ρ A 4 29 [(0, .ref (ρ 42)), (1, .int x.1), (2, .int x.2.1), (3, .int x.2.2.1)] [] x.2.2.2) (E := fun yy => (∀ y', yy = y' → gAt p l e R s m args below meth c Q H0 cells slots cy D ρ A 4 64 [(0, .ref (ρ 42)), (1, .int (y'.1)), (2, .int (y'.2.1))] [] (y'.2.2))) (fun x z hf hN hE => t_Model_about_b29 C hf (fun x1' x2' x3' u' h => hN (x1', x2', x3', u') h) (fun x1' x2' u' h => (hE _ h) (x1', x2', u') rfl)) hL hE0
noncomputable def M_Model_about_b16 (x1 : Int32) (s0 : Int32) (u : gSt) : Option ((Int32 × gSt)) :=
  (M_Model_fails s0 (1 : Int32) u).bind fun q17 =>
  if q17.1 = (0 : Int32) then
    ((gLp M_Model_about_L29 (x1, (0 : Int32), (0 : Int32), q17.2)).bind fun y29 =>
    if y29.1 = (0 : Int32) then
      (some (y29.2.2.1 42 11, y29.2.2))
    else if y29.1 = (1 : Int32) then
      (some (y29.2.2.1 42 10, y29.2.2))
    else if y29.1 = (2 : Int32) then
      (some (y29.2.2.1 42 21, y29.2.2))
    else if y29.1 = (3 : Int32) then
      (some (y29.2.1, y29.2.2))
    else if y29.1 = (4 : Int32) then
      (some (y29.2.2.1 42 36, y29.2.2))
    else if y29.1 = (5 : Int32) then
      (some (y29.2.2.1 42 18, y29.2.2))
    else if y29.1 = (6 : Int32) then
      (some (y29.2.2.1 42 19, y29.2.2))
    else 
      (some (y29.2.2.1 42 7, y29.2.2)))
  else
    (some ((0 : Int32), q17.2))
set_option maxHeartbeats 4000000 in
set_option maxRecDepth 100000 in
theorem t_Model_about_b16 (C : gX "TermDeskModel" prog_13_method_44_code 4 (some .int) 3 69 R cells slots cy D ρ A p s m args meth c) {x1 : Int32} {s0 : Int32} {u : gSt} {z : (Int32 × gSt)} (hM : M_Model_about_b16 x1 s0 u = some z) (hR : gRtI p l e R s m args below meth c Q H0 cells slots cy D ρ A prog_13_method_44_code z.1 z.2) : gAt p l e R s m args below meth c Q H0 cells slots cy D ρ A 4 16 [(0, .ref (ρ 42)), (1, .int x1)] [.int s0, .ref (ρ 42)] u := by
  intro ls H locs hl hP hS
  have hx := C.1
  have hb := C.2.1
  unfold M_Model_about_b16 at hM
  refine lv_iconst (v := (1 : Int32)) hx hb d_Model_about_16 (by decide) ?_
  obtain ⟨q17, hq17, hM⟩ := gb_some hM
  refine g_backI (g_runV (As := [.int s0, .int (1 : Int32)]) C hP (c_Model_fails C.2.2.2.2.2.2.2.2.1 hq17) gi_Model_fails gm_Model_133 rfl rfl (by decide) (by decide) hl.1 rfl (Nat.le_of_ble_eq_true rfl) d_Model_about_17) hS (fun H locs hP hS => ?_)
  refine lv_if_eq (tgt := 25) hx hb d_Model_about_20 (by decide) (fun hc20 => ?_) (fun hc20 => ?_)
  · replace hM := gi_t hc20 hM
    refine lv_iconst (v := (0 : Int32)) hx hb d_Model_about_25 (by decide) ?_
    refine lv_istore_n (lv' := [(2, .int (0 : Int32)), (0, .ref (ρ 42)), (1, .int x1)]) hx hb d_Model_about_26 rfl hl (by decide) rfl (fun ls hl => ?_)
    refine lv_iconst (v := (0 : Int32)) hx hb d_Model_about_27 (by decide) ?_
    refine lv_istore_n (lv' := [(3, .int (0 : Int32)), (2, .int (0 : Int32)), (0, .ref (ρ 42)), (1, .int x1)]) hx hb d_Model_about_28 rfl hl (by decide) rfl (fun ls hl => ?_)
    obtain ⟨y29, hL29, hM⟩ := gb_some hM
    refine t_Model_about_L29 C hL29 (fun y29_0 hy => ?_) ls H locs (lv_sub hl [2, 3, 1, 0] rfl) hP hS
    · subst hy
      intro ls H locs hl hP hS
      refine lv_iload_n hx hb d_Model_about_64 rfl (lv_at hl 1 rfl) ?_
      by_cases hc65_0 : y29.1 = (0 : Int32)
      · replace hM := gi_t hc65_0 hM
        refine g_tabIn (v := 0) (tgt := 108) hx hb d_Model_about_65 hc65_0 (by decide) (by decide) (off := 43) (by decide) (by decide) ?_
        refine lv_aload_n hx hb d_Model_about_108 rfl (lv_at hl 0 rfl) ?_
        refine g_getI C hP gl_DeskModel_184 rfl rfl d_Model_about_109 ?_
        obtain rfl := Option.some.inj hM
        exact hR _ ls H locs d_Model_about_112 hP hS
      replace hM := gi_f hc65_0 hM
      by_cases hc65_1 : y29.1 = (1 : Int32)
      · replace hM := gi_t hc65_1 hM
        refine g_tabIn (v := 1) (tgt := 113) hx hb d_Model_about_65 hc65_1 (by decide) (by decide) (off := 48) (by decide) (by decide) ?_
        refine lv_aload_n hx hb d_Model_about_113 rfl (lv_at hl 0 rfl) ?_
        refine g_getI C hP gl_DeskModel_164 rfl rfl d_Model_about_114 ?_
        obtain rfl := Option.some.inj hM
        exact hR _ ls H locs d_Model_about_117 hP hS
      replace hM := gi_f hc65_1 hM
      by_cases hc65_2 : y29.1 = (2 : Int32)
      · replace hM := gi_t hc65_2 hM
        refine g_tabIn (v := 2) (tgt := 118) hx hb d_Model_about_65 hc65_2 (by decide) (by decide) (off := 53) (by decide) (by decide) ?_
        refine lv_aload_n hx hb d_Model_about_118 rfl (lv_at hl 0 rfl) ?_
        refine g_getI C hP gl_DeskModel_230 rfl rfl d_Model_about_119 ?_
        obtain rfl := Option.some.inj hM
        exact hR _ ls H locs d_Model_about_122 hP hS
      replace hM := gi_f hc65_2 hM
      by_cases hc65_3 : y29.1 = (3 : Int32)
      · replace hM := gi_t hc65_3 hM
        refine g_tabIn (v := 3) (tgt := 123) hx hb d_Model_about_65 hc65_3 (by decide) (by decide) (off := 58) (by decide) (by decide) ?_
        refine lv_iload_n hx hb d_Model_about_123 rfl (lv_at hl 2 rfl) ?_
        obtain rfl := Option.some.inj hM
        exact hR _ ls H locs d_Model_about_124 hP hS
      replace hM := gi_f hc65_3 hM
      by_cases hc65_4 : y29.1 = (4 : Int32)
      · replace hM := gi_t hc65_4 hM
        refine g_tabIn (v := 4) (tgt := 125) hx hb d_Model_about_65 hc65_4 (by decide) (by decide) (off := 60) (by decide) (by decide) ?_
        refine lv_aload_n hx hb d_Model_about_125 rfl (lv_at hl 0 rfl) ?_
        refine g_getI C hP gl_DeskModel_246 rfl rfl d_Model_about_126 ?_
        obtain rfl := Option.some.inj hM
        exact hR _ ls H locs d_Model_about_129 hP hS
      replace hM := gi_f hc65_4 hM
      by_cases hc65_5 : y29.1 = (5 : Int32)
      · replace hM := gi_t hc65_5 hM
        refine g_tabIn (v := 5) (tgt := 130) hx hb d_Model_about_65 hc65_5 (by decide) (by decide) (off := 65) (by decide) (by decide) ?_
        refine lv_aload_n hx hb d_Model_about_130 rfl (lv_at hl 0 rfl) ?_
        refine g_getI C hP gl_DeskModel_197 rfl rfl d_Model_about_131 ?_
        obtain rfl := Option.some.inj hM
        exact hR _ ls H locs d_Model_about_134 hP hS
      replace hM := gi_f hc65_5 hM
      by_cases hc65_6 : y29.1 = (6 : Int32)
      · replace hM := gi_t hc65_6 hM
        refine g_tabIn (v := 6) (tgt := 135) hx hb d_Model_about_65 hc65_6 (by decide) (by decide) (off := 70) (by decide) (by decide) ?_
        refine lv_aload_n hx hb d_Model_about_135 rfl (lv_at hl 0 rfl) ?_
        refine g_getI C hP gl_DeskModel_207 rfl rfl d_Model_about_136 ?_
        obtain rfl := Option.some.inj hM
        exact hR _ ls H locs d_Model_about_139 hP hS
      replace hM := gi_f hc65_6 hM
      refine lv_tableOut (tgt := 140) hx hb d_Model_about_65 (by have := gneI (k := 0) hc65_0 (by decide); have := gneI (k := 0) hc65_0 (by decide); have := gneI (k := 1) hc65_1 (by decide); have := gneI (k := 2) hc65_2 (by decide); have := gneI (k := 3) hc65_3 (by decide); have := gneI (k := 4) hc65_4 (by decide); have := gneI (k := 5) hc65_5 (by decide); have := gneI (k := 6) hc65_6 (by decide); omega) (by decide) ?_
      refine lv_aload_n hx hb d_Model_about_140 rfl (lv_at hl 0 rfl) ?_
      refine g_getI C hP gl_DeskModel_157 rfl rfl d_Model_about_141 ?_
      obtain rfl := Option.some.inj hM
      exact hR _ ls H locs d_Model_about_144 hP hS
  · replace hM := gi_f hc20 hM
    refine lv_iconst (v := (0 : Int32)) hx hb d_Model_about_23 (by decide) ?_
    obtain rfl := Option.some.inj hM
    exact hR _ ls H locs d_Model_about_24 hP hS
noncomputable def M_Model_about_b11 (x1 : Int32) (u : gSt) : Option ((Int32 × gSt)) :=
  M_Model_about_b16 x1 (1 : Int32) u
set_option maxHeartbeats 4000000 in
set_option maxRecDepth 100000 in
theorem t_Model_about_b11 (C : gX "TermDeskModel" prog_13_method_44_code 4 (some .int) 3 69 R cells slots cy D ρ A p s m args meth c) {x1 : Int32} {u : gSt} {z : (Int32 × gSt)} (hM : M_Model_about_b11 x1 u = some z) (hR : gRtI p l e R s m args below meth c Q H0 cells slots cy D ρ A prog_13_method_44_code z.1 z.2) : gAt p l e R s m args below meth c Q H0 cells slots cy D ρ A 4 11 [(0, .ref (ρ 42)), (1, .int x1)] [.ref (ρ 42)] u := by
  intro ls H locs hl hP hS
  have hx := C.1
  have hb := C.2.1
  unfold M_Model_about_b11 at hM
  refine lv_iconst (v := (1 : Int32)) hx hb d_Model_about_11 (by decide) ?_
  refine lv_goto (tgt := 16) hx hb d_Model_about_12 (by decide) ?_
  exact t_Model_about_b16 C hM hR ls H locs (lv_sub hl [0, 1] rfl) hP hS
noncomputable def M_Model_about (x1 : Int32) (u : gSt) : Option ((Int32 × gSt)) :=
  if x1 < (0 : Int32) then
    (M_Model_about_b11 x1 u)
  else
    (if x1 ≤ (7 : Int32) then
      (M_Model_about_b16 x1 (0 : Int32) u)
    else
      (M_Model_about_b11 x1 u))
set_option maxHeartbeats 4000000 in
set_option maxRecDepth 100000 in
theorem t_Model_about (C : gX "TermDeskModel" prog_13_method_44_code 4 (some .int) 3 69 R cells slots cy D ρ A p s m args meth c) {x1 : Int32} {u : gSt} {z : (Int32 × gSt)} (hM : M_Model_about x1 u = some z) (hR : gRtI p l e R s m args below meth c Q H0 cells slots cy D ρ A prog_13_method_44_code z.1 z.2) : gAt p l e R s m args below meth c Q H0 cells slots cy D ρ A 4 0 [(0, .ref (ρ 42)), (1, .int x1)] [] u := by
  intro ls H locs hl hP hS
  have hx := C.1
  have hb := C.2.1
  unfold M_Model_about at hM
  refine lv_aload_n hx hb d_Model_about_0 rfl (lv_at hl 0 rfl) ?_
  refine lv_iload_n hx hb d_Model_about_1 rfl (lv_at hl 1 rfl) ?_
  refine lv_if_lt (tgt := 11) hx hb d_Model_about_2 (by decide) (fun hc2 => ?_) (fun hc2 => ?_)
  · replace hM := gi_t hc2 hM
    exact t_Model_about_b11 C hM hR ls H locs (lv_sub hl [0, 1] rfl) hP hS
  · replace hM := gi_f hc2 hM
    refine lv_iload_n hx hb d_Model_about_5 rfl (lv_at hl 1 rfl) ?_
    refine lv_bipush (v := (7 : Int32)) hx hb d_Model_about_6 (by decide) ?_
    refine lv_icmp_le (tgt := 15) hx hb d_Model_about_8 (by decide) (fun hc8 => ?_) (fun hc8 => ?_)
    · replace hM := gi_t hc8 hM
      refine lv_iconst (v := (0 : Int32)) hx hb d_Model_about_15 (by decide) ?_
      exact t_Model_about_b16 C hM hR ls H locs (lv_sub hl [0, 1] rfl) hP hS
    · replace hM := gi_f hc8 hM
      exact t_Model_about_b11 C hM hR ls H locs (lv_sub hl [0, 1] rfl) hP hS
theorem c_Model_about {l : Launch} {cy : Nat → ClassId} {D : va_G} {ρ : Nat → Nat} {A : Nat → Prop} (hD : gD ρ A) {x1 : Int32} {u : gSt} {z : (Int32 × gSt)} (hM : M_Model_about x1 u = some z) : gCtI l y_Model_about prog_13_method_44_code 4 (some .int) 3 69 cy D ρ A [.ref (ρ 42), .int x1] u z.1 z.2 :=
  g_met (by decide) hD (Nat.le_of_ble_eq_true rfl) (fun p e s m below meth c ls X hl hP => t_Model_about X hM (fun pc ls H locs hd hP hS => g_iret X hP hS hd) ls _ [] hl hP va_S.rf)
end
section
variable {p : Program} {l : Launch} {e : Env} {R : Room} {s : State} {m : MethodId} {args : Array Value} {below : List Frame} {meth : Method} {c : Code} {Q : State → Prop} {H0 : Heap} {cells slots : Nat} {cy : Nat → ClassId} {D : va_G} {ρ : Nat → Nat} {A : Nat → Prop}
def y_Model_isTerm : MethodName := ⟨"TermDeskModel", "isTerm", "(I)Z"⟩
theorem gi_Model_isTerm : gMi y_Model_isTerm prog_13_method_45_code 2 (some .boolean) 1 8 := ⟨(gWs_at 1277 (by decide +kernel) (by decide +kernel)), (gWs_at 1276 (by decide +kernel) (by decide +kernel)), (gWs_at 89 (by decide +kernel) (by decide +kernel)), (gWs_at 125 (by decide +kernel) (by decide +kernel)), ⟨by decide +kernel, by decide +kernel, by decide +kernel⟩, _, _, rfl⟩
theorem gm_Model_249 : gMk "TermDeskModel" 249 y_Model_isTerm := Or.inl (gWs_at 1274 (by decide +kernel) (by decide +kernel))
theorem d_Model_isTerm_0 : decode prog_13_method_45_code 0 = .ok (.iload_n 1, 1) := by decide +kernel
theorem d_Model_isTerm_1 : decode prog_13_method_45_code 1 = .ok (.ifCond .lt 15, 3) := by decide +kernel
theorem d_Model_isTerm_4 : decode prog_13_method_45_code 4 = .ok (.iload_n 1, 1) := by decide +kernel
theorem d_Model_isTerm_5 : decode prog_13_method_45_code 5 = .ok (.aload_n 0, 1) := by decide +kernel
theorem d_Model_isTerm_6 : decode prog_13_method_45_code 6 = .ok (.getfield 184, 3) := by decide +kernel
theorem d_Model_isTerm_9 : decode prog_13_method_45_code 9 = .ok (.if_icmp .ge 7, 3) := by decide +kernel
theorem d_Model_isTerm_12 : decode prog_13_method_45_code 12 = .ok (.iconst 1, 1) := by decide +kernel
theorem d_Model_isTerm_13 : decode prog_13_method_45_code 13 = .ok (.goto 4, 3) := by decide +kernel
theorem d_Model_isTerm_16 : decode prog_13_method_45_code 16 = .ok (.iconst 0, 1) := by decide +kernel
theorem d_Model_isTerm_17 : decode prog_13_method_45_code 17 = .ok (.ireturn, 1) := by decide +kernel
noncomputable def M_Model_isTerm_b17 (s0 : Int32) (u : gSt) : Option ((Int32 × gSt)) :=
  gc (gZ s0) <| some (s0, u)
set_option maxHeartbeats 4000000 in
set_option maxRecDepth 100000 in
theorem t_Model_isTerm_b17 (C : gX "TermDeskModel" prog_13_method_45_code 2 (some .boolean) 0 0 R cells slots cy D ρ A p s m args meth c) {s0 : Int32} {u : gSt} {z : (Int32 × gSt)} (hM : M_Model_isTerm_b17 s0 u = some z) (hR : gRtZ p l e R s m args below meth c Q H0 cells slots cy D ρ A prog_13_method_45_code z.1 z.2) : gAt p l e R s m args below meth c Q H0 cells slots cy D ρ A 2 17 [] [.int s0] u := by
  intro ls H locs hl hP hS
  have hx := C.1
  have hb := C.2.1
  unfold M_Model_isTerm_b17 at hM
  obtain ⟨hz17, hM⟩ := gc_some hM
  obtain rfl := Option.some.inj hM
  exact hR _ ls H locs hz17 d_Model_isTerm_17 hP hS
noncomputable def M_Model_isTerm_b16 (u : gSt) : Option ((Int32 × gSt)) :=
  M_Model_isTerm_b17 (0 : Int32) u
set_option maxHeartbeats 4000000 in
set_option maxRecDepth 100000 in
theorem t_Model_isTerm_b16 (C : gX "TermDeskModel" prog_13_method_45_code 2 (some .boolean) 0 0 R cells slots cy D ρ A p s m args meth c) {u : gSt} {z : (Int32 × gSt)} (hM : M_Model_isTerm_b16 u = some z) (hR : gRtZ p l e R s m args below meth c Q H0 cells slots cy D ρ A prog_13_method_45_code z.1 z.2) : gAt p l e R s m args below meth c Q H0 cells slots cy D ρ A 2 16 [] [] u := by
  intro ls H locs hl hP hS
  have hx := C.1
  have hb := C.2.1
  unfold M_Model_isTerm_b16 at hM
  refine lv_iconst (v := (0 : Int32)) hx hb d_Model_isTerm_16 (by decide) ?_
  exact t_Model_isTerm_b17 C hM hR ls H locs (lv_sub hl [] rfl) hP hS
noncomputable def M_Model_isTerm (x1 : Int32) (u : gSt) : Option ((Int32 × gSt)) :=
  if x1 < (0 : Int32) then
    (M_Model_isTerm_b16 u)
  else
    (if (u.1 42 11) ≤ x1 then
      (M_Model_isTerm_b16 u)
    else
      (M_Model_isTerm_b17 (1 : Int32) u))
set_option maxHeartbeats 4000000 in
set_option maxRecDepth 100000 in
theorem t_Model_isTerm (C : gX "TermDeskModel" prog_13_method_45_code 2 (some .boolean) 0 0 R cells slots cy D ρ A p s m args meth c) {x1 : Int32} {u : gSt} {z : (Int32 × gSt)} (hM : M_Model_isTerm x1 u = some z) (hR : gRtZ p l e R s m args below meth c Q H0 cells slots cy D ρ A prog_13_method_45_code z.1 z.2) : gAt p l e R s m args below meth c Q H0 cells slots cy D ρ A 2 0 [(0, .ref (ρ 42)), (1, .int x1)] [] u := by
  intro ls H locs hl hP hS
  have hx := C.1
  have hb := C.2.1
  unfold M_Model_isTerm at hM
  refine lv_iload_n hx hb d_Model_isTerm_0 rfl (lv_at hl 1 rfl) ?_
  refine lv_if_lt (tgt := 16) hx hb d_Model_isTerm_1 (by decide) (fun hc1 => ?_) (fun hc1 => ?_)
  · replace hM := gi_t hc1 hM
    exact t_Model_isTerm_b16 C hM hR ls H locs (lv_sub hl [] rfl) hP hS
  · replace hM := gi_f hc1 hM
    refine lv_iload_n hx hb d_Model_isTerm_4 rfl (lv_at hl 1 rfl) ?_
    refine lv_aload_n hx hb d_Model_isTerm_5 rfl (lv_at hl 0 rfl) ?_
    refine g_getI C hP gl_DeskModel_184 rfl rfl d_Model_isTerm_6 ?_
    refine lv_icmp_ge (tgt := 16) hx hb d_Model_isTerm_9 (by decide) (fun hc9 => ?_) (fun hc9 => ?_)
    · replace hM := gi_t hc9 hM
      exact t_Model_isTerm_b16 C hM hR ls H locs (lv_sub hl [] rfl) hP hS
    · replace hM := gi_f hc9 hM
      refine lv_iconst (v := (1 : Int32)) hx hb d_Model_isTerm_12 (by decide) ?_
      refine lv_goto (tgt := 17) hx hb d_Model_isTerm_13 (by decide) ?_
      exact t_Model_isTerm_b17 C hM hR ls H locs (lv_sub hl [] rfl) hP hS
theorem c_Model_isTerm {l : Launch} {cy : Nat → ClassId} {D : va_G} {ρ : Nat → Nat} {A : Nat → Prop} (hD : gD ρ A) {x1 : Int32} {u : gSt} {z : (Int32 × gSt)} (hM : M_Model_isTerm x1 u = some z) : gCtI l y_Model_isTerm prog_13_method_45_code 2 (some .boolean) 0 0 cy D ρ A [.ref (ρ 42), .int x1] u z.1 z.2 :=
  g_met (by decide) hD (Nat.le_of_ble_eq_true rfl) (fun p e s m below meth c ls X hl hP => t_Model_isTerm X hM (fun pc ls H locs hz hd hP hS => g_zret X hP hS hz hd) ls _ [] hl hP va_S.rf)
end
section
variable {p : Program} {l : Launch} {e : Env} {R : Room} {s : State} {m : MethodId} {args : Array Value} {below : List Frame} {meth : Method} {c : Code} {Q : State → Prop} {H0 : Heap} {cells slots : Nat} {cy : Nat → ClassId} {D : va_G} {ρ : Nat → Nat} {A : Nat → Prop}
def y_Model_wayOf : MethodName := ⟨"TermDeskModel", "wayOf", "(I)I"⟩
theorem gi_Model_wayOf : gMi y_Model_wayOf prog_13_method_46_code 5 (some .int) 1 8 := ⟨(gWs_at 1281 (by decide +kernel) (by decide +kernel)), (gWs_at 1280 (by decide +kernel) (by decide +kernel)), (gWs_at 90 (by decide +kernel) (by decide +kernel)), (gWs_at 125 (by decide +kernel) (by decide +kernel)), ⟨by decide +kernel, by decide +kernel, by decide +kernel⟩, _, _, rfl⟩
theorem gm_Model_252 : gMk "TermDeskModel" 252 y_Model_wayOf := Or.inl (gWs_at 1278 (by decide +kernel) (by decide +kernel))
theorem d_Model_wayOf_0 : decode prog_13_method_46_code 0 = .ok (.iconst 0, 1) := by decide +kernel
theorem d_Model_wayOf_1 : decode prog_13_method_46_code 1 = .ok (.istore_n 2, 1) := by decide +kernel
theorem d_Model_wayOf_2 : decode prog_13_method_46_code 2 = .ok (.iload_n 2, 1) := by decide +kernel
theorem d_Model_wayOf_3 : decode prog_13_method_46_code 3 = .ok (.aload_n 0, 1) := by decide +kernel
theorem d_Model_wayOf_4 : decode prog_13_method_46_code 4 = .ok (.getfield 184, 3) := by decide +kernel
theorem d_Model_wayOf_7 : decode prog_13_method_46_code 7 = .ok (.if_icmp .ge 16, 3) := by decide +kernel
theorem d_Model_wayOf_10 : decode prog_13_method_46_code 10 = .ok (.aload_n 0, 1) := by decide +kernel
theorem d_Model_wayOf_11 : decode prog_13_method_46_code 11 = .ok (.getfield 83, 3) := by decide +kernel
theorem d_Model_wayOf_14 : decode prog_13_method_46_code 14 = .ok (.iload_n 2, 1) := by decide +kernel
theorem d_Model_wayOf_15 : decode prog_13_method_46_code 15 = .ok (.iconst 0, 1) := by decide +kernel
theorem d_Model_wayOf_16 : decode prog_13_method_46_code 16 = .ok (.iastore, 1) := by decide +kernel
theorem d_Model_wayOf_17 : decode prog_13_method_46_code 17 = .ok (.iinc 2 1, 3) := by decide +kernel
theorem d_Model_wayOf_20 : decode prog_13_method_46_code 20 = .ok (.goto (-18), 3) := by decide +kernel
theorem d_Model_wayOf_23 : decode prog_13_method_46_code 23 = .ok (.iconst 1, 1) := by decide +kernel
theorem d_Model_wayOf_24 : decode prog_13_method_46_code 24 = .ok (.istore_n 2, 1) := by decide +kernel
theorem d_Model_wayOf_25 : decode prog_13_method_46_code 25 = .ok (.iload_n 2, 1) := by decide +kernel
theorem d_Model_wayOf_26 : decode prog_13_method_46_code 26 = .ok (.ifCond .eq 94, 3) := by decide +kernel
theorem d_Model_wayOf_29 : decode prog_13_method_46_code 29 = .ok (.iconst 0, 1) := by decide +kernel
theorem d_Model_wayOf_30 : decode prog_13_method_46_code 30 = .ok (.istore_n 2, 1) := by decide +kernel
theorem d_Model_wayOf_31 : decode prog_13_method_46_code 31 = .ok (.iconst 0, 1) := by decide +kernel
theorem d_Model_wayOf_32 : decode prog_13_method_46_code 32 = .ok (.istore_n 3, 1) := by decide +kernel
theorem d_Model_wayOf_33 : decode prog_13_method_46_code 33 = .ok (.iload_n 3, 1) := by decide +kernel
theorem d_Model_wayOf_34 : decode prog_13_method_46_code 34 = .ok (.aload_n 0, 1) := by decide +kernel
theorem d_Model_wayOf_35 : decode prog_13_method_46_code 35 = .ok (.getfield 184, 3) := by decide +kernel
theorem d_Model_wayOf_38 : decode prog_13_method_46_code 38 = .ok (.if_icmp .ge 79, 3) := by decide +kernel
theorem d_Model_wayOf_41 : decode prog_13_method_46_code 41 = .ok (.iconst 0, 1) := by decide +kernel
theorem d_Model_wayOf_42 : decode prog_13_method_46_code 42 = .ok (.istore 4, 2) := by decide +kernel
theorem d_Model_wayOf_44 : decode prog_13_method_46_code 44 = .ok (.iload 4, 2) := by decide +kernel
theorem d_Model_wayOf_46 : decode prog_13_method_46_code 46 = .ok (.aload_n 0, 1) := by decide +kernel
theorem d_Model_wayOf_47 : decode prog_13_method_46_code 47 = .ok (.getfield 184, 3) := by decide +kernel
theorem d_Model_wayOf_50 : decode prog_13_method_46_code 50 = .ok (.if_icmp .ge 61, 3) := by decide +kernel
theorem d_Model_wayOf_53 : decode prog_13_method_46_code 53 = .ok (.aload_n 0, 1) := by decide +kernel
theorem d_Model_wayOf_54 : decode prog_13_method_46_code 54 = .ok (.getfield 37, 3) := by decide +kernel
theorem d_Model_wayOf_57 : decode prog_13_method_46_code 57 = .ok (.sipush 200, 3) := by decide +kernel
theorem d_Model_wayOf_60 : decode prog_13_method_46_code 60 = .ok (.iload_n 3, 1) := by decide +kernel
theorem d_Model_wayOf_61 : decode prog_13_method_46_code 61 = .ok (.imul, 1) := by decide +kernel
theorem d_Model_wayOf_62 : decode prog_13_method_46_code 62 = .ok (.iload 4, 2) := by decide +kernel
theorem d_Model_wayOf_64 : decode prog_13_method_46_code 64 = .ok (.iadd, 1) := by decide +kernel
theorem d_Model_wayOf_65 : decode prog_13_method_46_code 65 = .ok (.baload, 1) := by decide +kernel
theorem d_Model_wayOf_66 : decode prog_13_method_46_code 66 = .ok (.ifCond .eq 39, 3) := by decide +kernel
theorem d_Model_wayOf_69 : decode prog_13_method_46_code 69 = .ok (.aload_n 0, 1) := by decide +kernel
theorem d_Model_wayOf_70 : decode prog_13_method_46_code 70 = .ok (.getfield 83, 3) := by decide +kernel
theorem d_Model_wayOf_73 : decode prog_13_method_46_code 73 = .ok (.iload_n 3, 1) := by decide +kernel
theorem d_Model_wayOf_74 : decode prog_13_method_46_code 74 = .ok (.iaload, 1) := by decide +kernel
theorem d_Model_wayOf_75 : decode prog_13_method_46_code 75 = .ok (.aload_n 0, 1) := by decide +kernel
theorem d_Model_wayOf_76 : decode prog_13_method_46_code 76 = .ok (.getfield 83, 3) := by decide +kernel
theorem d_Model_wayOf_79 : decode prog_13_method_46_code 79 = .ok (.iload 4, 2) := by decide +kernel
theorem d_Model_wayOf_81 : decode prog_13_method_46_code 81 = .ok (.iaload, 1) := by decide +kernel
theorem d_Model_wayOf_82 : decode prog_13_method_46_code 82 = .ok (.if_icmp .le 6, 3) := by decide +kernel
theorem d_Model_wayOf_85 : decode prog_13_method_46_code 85 = .ok (.goto 20, 3) := by decide +kernel
theorem d_Model_wayOf_88 : decode prog_13_method_46_code 88 = .ok (.aload_n 0, 1) := by decide +kernel
theorem d_Model_wayOf_89 : decode prog_13_method_46_code 89 = .ok (.getfield 83, 3) := by decide +kernel
theorem d_Model_wayOf_92 : decode prog_13_method_46_code 92 = .ok (.iload_n 3, 1) := by decide +kernel
theorem d_Model_wayOf_93 : decode prog_13_method_46_code 93 = .ok (.aload_n 0, 1) := by decide +kernel
theorem d_Model_wayOf_94 : decode prog_13_method_46_code 94 = .ok (.getfield 83, 3) := by decide +kernel
theorem d_Model_wayOf_97 : decode prog_13_method_46_code 97 = .ok (.iload 4, 2) := by decide +kernel
theorem d_Model_wayOf_99 : decode prog_13_method_46_code 99 = .ok (.iaload, 1) := by decide +kernel
theorem d_Model_wayOf_100 : decode prog_13_method_46_code 100 = .ok (.iconst 1, 1) := by decide +kernel
theorem d_Model_wayOf_101 : decode prog_13_method_46_code 101 = .ok (.iadd, 1) := by decide +kernel
theorem d_Model_wayOf_102 : decode prog_13_method_46_code 102 = .ok (.iastore, 1) := by decide +kernel
theorem d_Model_wayOf_103 : decode prog_13_method_46_code 103 = .ok (.iconst 1, 1) := by decide +kernel
theorem d_Model_wayOf_104 : decode prog_13_method_46_code 104 = .ok (.istore_n 2, 1) := by decide +kernel
theorem d_Model_wayOf_105 : decode prog_13_method_46_code 105 = .ok (.iinc 4 1, 3) := by decide +kernel
theorem d_Model_wayOf_108 : decode prog_13_method_46_code 108 = .ok (.goto (-64), 3) := by decide +kernel
theorem d_Model_wayOf_111 : decode prog_13_method_46_code 111 = .ok (.iinc 3 1, 3) := by decide +kernel
theorem d_Model_wayOf_114 : decode prog_13_method_46_code 114 = .ok (.goto (-81), 3) := by decide +kernel
theorem d_Model_wayOf_117 : decode prog_13_method_46_code 117 = .ok (.goto (-92), 3) := by decide +kernel
theorem d_Model_wayOf_120 : decode prog_13_method_46_code 120 = .ok (.aload_n 0, 1) := by decide +kernel
theorem d_Model_wayOf_121 : decode prog_13_method_46_code 121 = .ok (.getfield 83, 3) := by decide +kernel
theorem d_Model_wayOf_124 : decode prog_13_method_46_code 124 = .ok (.iload_n 1, 1) := by decide +kernel
theorem d_Model_wayOf_125 : decode prog_13_method_46_code 125 = .ok (.iaload, 1) := by decide +kernel
theorem d_Model_wayOf_126 : decode prog_13_method_46_code 126 = .ok (.ireturn, 1) := by decide +kernel
noncomputable def M_Model_wayOf_b2 (x1 : Int32) (x2 : Int32) (u : gSt) : Option ((Int32 × Int32 × gSt) ⊕ ((Int32 × gSt))) :=
  if (u.1 42 11) ≤ x2 then
    (some (.inr (x1, u)))
  else
    (gc (gIn x2 (gLen 65)) <| (some (gsA u 65 (gIx x2) (0 : Int32))).bind fun u16 =>
    some (.inl (x1, x2 + (1 : Int32), u16)))
set_option maxHeartbeats 4000000 in
set_option maxRecDepth 100000 in
theorem t_Model_wayOf_b2 (C : gX "TermDeskModel" prog_13_method_46_code 5 (some .int) 0 0 R cells slots cy D ρ A p s m args meth c) {x1 : Int32} {x2 : Int32} {u : gSt} {z : (Int32 × Int32 × gSt) ⊕ ((Int32 × gSt))} (hM : M_Model_wayOf_b2 x1 x2 u = some z) (hN : ∀ x1' x2' u', z = .inl (x1', x2', u') → gAt p l e R s m args below meth c Q H0 cells slots cy D ρ A 5 2 [(0, .ref (ρ 42)), (1, .int (x1')), (2, .int (x2'))] [] (u')) (hE0 : ∀ x1' u', z = .inr (x1', u') → gAt p l e R s m args below meth c Q H0 cells slots cy D ρ A 5 23 [(0, .ref (ρ 42)), (1, .int (x1'))] [] (u')) : gAt p l e R s m args below meth c Q H0 cells slots cy D ρ A 5 2 [(0, .ref (ρ 42)), (1, .int x1), (2, .int x2)] [] u := by
  intro ls H locs hl hP hS
  have hx := C.1
  have hb := C.2.1
  unfold M_Model_wayOf_b2 at hM
  refine lv_iload_n hx hb d_Model_wayOf_2 rfl (lv_at hl 2 rfl) ?_
  refine lv_aload_n hx hb d_Model_wayOf_3 rfl (lv_at hl 0 rfl) ?_
  refine g_getI C hP gl_DeskModel_184 rfl rfl d_Model_wayOf_4 ?_
  refine lv_icmp_ge (tgt := 23) hx hb d_Model_wayOf_7 (by decide) (fun hc7 => ?_) (fun hc7 => ?_)
  · replace hM := gi_t hc7 hM
    exact hE0 _ _ (Option.some.inj hM).symm ls H locs (lv_sub hl [0, 1] rfl) hP hS
  · replace hM := gi_f hc7 hM
    refine lv_aload_n hx hb d_Model_wayOf_10 rfl (lv_at hl 0 rfl) ?_
    refine g_getR (b := 65) C hP gl_DeskModel_83 rfl rfl rfl d_Model_wayOf_11 ?_
    refine lv_iload_n hx hb d_Model_wayOf_14 rfl (lv_at hl 2 rfl) ?_
    refine lv_iconst (v := (0 : Int32)) hx hb d_Model_wayOf_15 (by decide) ?_
    obtain ⟨hi16, hM⟩ := gc_some hM
    obtain ⟨u16, e16, hM⟩ := gb_some hM
    refine g_iast C hP hS rfl hi16 d_Model_wayOf_16 (fun H locs hP hS => ?_)
    rw [Option.some.inj e16] at hP
    refine lv_iinc (k := 2) (v := x2 + (1 : Int32)) (lv' := [(2, .int (x2 + (1 : Int32))), (0, .ref (ρ 42)), (1, .int x1)]) hx hb d_Model_wayOf_17 hl rfl (congrArg (fun z => x2 + z) (by decide)) (by decide) rfl (fun ls hl => ?_)
    refine lv_goto (tgt := 2) hx hb d_Model_wayOf_20 (by decide) ?_
    exact hN _ _ _ (Option.some.inj hM).symm ls H locs (lv_sub hl [1, 2, 0] rfl) hP hS
noncomputable def M_Model_wayOf_L2 : (Int32 × Int32 × gSt) → Option ((Int32 × Int32 × gSt) ⊕ ((Int32 × gSt))) := fun x => M_Model_wayOf_b2 x.1 x.2.1 x.2.2
theorem t_Model_wayOf_L2 (C : gX "TermDeskModel" prog_13_method_46_code 5 (some .int) 0 0 R cells slots cy D ρ A p s m args meth c) {x1 : Int32} {x2 : Int32} {u : gSt} {yy : (Int32 × gSt)} (hL : gLp M_Model_wayOf_L2 (x1, x2, u) = some yy) (hE0 : (∀ y', yy = y' → gAt p l e R s m args below meth c Q H0 cells slots cy D ρ A 5 23 [(0, .ref (ρ 42)), (1, .int (y'.1))] [] (y'.2))) : gAt p l e R s m args below meth c Q H0 cells slots cy D ρ A 5 2 [(0, .ref (ρ 42)), (1, .int x1), (2, .int x2)] [] u :=
  g_loop (f := M_Model_wayOf_L2) (P := fun x => gAt p l e R s m args below meth c Q H0 cells slots cy D ρ A 5 2 [(0, .ref (ρ 42)), (1, .int x.1), (2, .int x.2.1)] [] x.2.2) (E := fun yy => (∀ y', yy = y' → gAt p l e R s m args below meth c Q H0 cells slots cy D ρ A 5 23 [(0, .ref (ρ 42)), (1, .int (y'.1))] [] (y'.2))) (fun x z hf hN hE => t_Model_wayOf_b2 C hf (fun x1' x2' u' h => hN (x1', x2', u') h) (fun x1' u' h => (hE _ h) (x1', u') rfl)) hL hE0
noncomputable def M_Model_wayOf_b105 (x1 : Int32) (x2 : Int32) (x3 : Int32) (x4 : Int32) (u : gSt) : Option ((Int32 × Int32 × Int32 × Int32 × gSt) ⊕ ((Int32 × Int32 × Int32 × gSt))) :=
  some (.inl (x1, x2, x3, x4 + (1 : Int32), u))
set_option maxHeartbeats 4000000 in
set_option maxRecDepth 100000 in
theorem t_Model_wayOf_b105 (C : gX "TermDeskModel" prog_13_method_46_code 5 (some .int) 0 0 R cells slots cy D ρ A p s m args meth c) {x1 : Int32} {x2 : Int32} {x3 : Int32} {x4 : Int32} {u : gSt} {z : (Int32 × Int32 × Int32 × Int32 × gSt) ⊕ ((Int32 × Int32 × Int32 × gSt))} (hM : M_Model_wayOf_b105 x1 x2 x3 x4 u = some z) (hN : ∀ x1' x2' x3' x4' u', z = .inl (x1', x2', x3', x4', u') → gAt p l e R s m args below meth c Q H0 cells slots cy D ρ A 5 44 [(0, .ref (ρ 42)), (1, .int (x1')), (2, .int (x2')), (3, .int (x3')), (4, .int (x4'))] [] (u')) (hE0 : ∀ x1' x2' x3' u', z = .inr (x1', x2', x3', u') → gAt p l e R s m args below meth c Q H0 cells slots cy D ρ A 5 111 [(0, .ref (ρ 42)), (1, .int (x1')), (2, .int (x2')), (3, .int (x3'))] [] (u')) : gAt p l e R s m args below meth c Q H0 cells slots cy D ρ A 5 105 [(0, .ref (ρ 42)), (1, .int x1), (2, .int x2), (3, .int x3), (4, .int x4)] [] u := by
  intro ls H locs hl hP hS
  have hx := C.1
  have hb := C.2.1
  unfold M_Model_wayOf_b105 at hM
  refine lv_iinc (k := 4) (v := x4 + (1 : Int32)) (lv' := [(4, .int (x4 + (1 : Int32))), (0, .ref (ρ 42)), (1, .int x1), (2, .int x2), (3, .int x3)]) hx hb d_Model_wayOf_105 hl rfl (congrArg (fun z => x4 + z) (by decide)) (by decide) rfl (fun ls hl => ?_)
  refine lv_goto (tgt := 44) hx hb d_Model_wayOf_108 (by decide) ?_
  exact hN _ _ _ _ _ (Option.some.inj hM).symm ls H locs (lv_sub hl [1, 2, 3, 4, 0] rfl) hP hS
noncomputable def M_Model_wayOf_b44 (x1 : Int32) (x2 : Int32) (x3 : Int32) (x4 : Int32) (u : gSt) : Option ((Int32 × Int32 × Int32 × Int32 × gSt) ⊕ ((Int32 × Int32 × Int32 × gSt))) :=
  if (u.1 42 11) ≤ x4 then
    (some (.inr (x1, x2, x3, u)))
  else
    (gc (gIn (((200 : Int32) * x3) + x4) (gLen 50)) <| if (u.2.2.1 50 (gIx (((200 : Int32) * x3) + x4))) = (0 : Int32) then
      (M_Model_wayOf_b105 x1 x2 x3 x4 u)
    else
      (gc (gIn x3 (gLen 65)) <| gc (gIn x4 (gLen 65)) <| if (u.2.2.1 65 (gIx x3)) ≤ (u.2.2.1 65 (gIx x4)) then
        (gc (gIn x4 (gLen 65)) <| gc (gIn x3 (gLen 65)) <| (some (gsA u 65 (gIx x3) ((u.2.2.1 65 (gIx x4)) + (1 : Int32)))).bind fun u102 =>
        M_Model_wayOf_b105 x1 (1 : Int32) x3 x4 u102)
      else
        (M_Model_wayOf_b105 x1 x2 x3 x4 u)))
set_option maxHeartbeats 4000000 in
set_option maxRecDepth 100000 in
theorem t_Model_wayOf_b44 (C : gX "TermDeskModel" prog_13_method_46_code 5 (some .int) 0 0 R cells slots cy D ρ A p s m args meth c) {x1 : Int32} {x2 : Int32} {x3 : Int32} {x4 : Int32} {u : gSt} {z : (Int32 × Int32 × Int32 × Int32 × gSt) ⊕ ((Int32 × Int32 × Int32 × gSt))} (hM : M_Model_wayOf_b44 x1 x2 x3 x4 u = some z) (hN : ∀ x1' x2' x3' x4' u', z = .inl (x1', x2', x3', x4', u') → gAt p l e R s m args below meth c Q H0 cells slots cy D ρ A 5 44 [(0, .ref (ρ 42)), (1, .int (x1')), (2, .int (x2')), (3, .int (x3')), (4, .int (x4'))] [] (u')) (hE0 : ∀ x1' x2' x3' u', z = .inr (x1', x2', x3', u') → gAt p l e R s m args below meth c Q H0 cells slots cy D ρ A 5 111 [(0, .ref (ρ 42)), (1, .int (x1')), (2, .int (x2')), (3, .int (x3'))] [] (u')) : gAt p l e R s m args below meth c Q H0 cells slots cy D ρ A 5 44 [(0, .ref (ρ 42)), (1, .int x1), (2, .int x2), (3, .int x3), (4, .int x4)] [] u := by
  intro ls H locs hl hP hS
  have hx := C.1
  have hb := C.2.1
  unfold M_Model_wayOf_b44 at hM
  refine lv_iload hx hb d_Model_wayOf_44 (lv_at hl 4 rfl) ?_
  refine lv_aload_n hx hb d_Model_wayOf_46 rfl (lv_at hl 0 rfl) ?_
  refine g_getI C hP gl_DeskModel_184 rfl rfl d_Model_wayOf_47 ?_
  refine lv_icmp_ge (tgt := 111) hx hb d_Model_wayOf_50 (by decide) (fun hc50 => ?_) (fun hc50 => ?_)
  · replace hM := gi_t hc50 hM
    exact hE0 _ _ _ _ (Option.some.inj hM).symm ls H locs (lv_sub hl [0, 1, 2, 3] rfl) hP hS
  · replace hM := gi_f hc50 hM
    refine lv_aload_n hx hb d_Model_wayOf_53 rfl (lv_at hl 0 rfl) ?_
    refine g_getR (b := 50) C hP gl_DeskModel_37 rfl rfl rfl d_Model_wayOf_54 ?_
    refine lv_sipush (v := (200 : Int32)) hx hb d_Model_wayOf_57 (by decide) ?_
    refine lv_iload_n hx hb d_Model_wayOf_60 rfl (lv_at hl 3 rfl) ?_
    refine lv_imul hx hb d_Model_wayOf_61 ?_
    refine lv_iload hx hb d_Model_wayOf_62 (lv_at hl 4 rfl) ?_
    refine lv_iadd hx hb d_Model_wayOf_64 ?_
    obtain ⟨hi65, hM⟩ := gc_some hM
    refine g_zald C hP rfl hi65 d_Model_wayOf_65 ?_
    refine lv_if_eq (tgt := 105) hx hb d_Model_wayOf_66 (by decide) (fun hc66 => ?_) (fun hc66 => ?_)
    · replace hM := gi_t hc66 hM
      exact t_Model_wayOf_b105 C hM hN hE0 ls H locs (lv_sub hl [0, 1, 2, 3, 4] rfl) hP hS
    · replace hM := gi_f hc66 hM
      refine lv_aload_n hx hb d_Model_wayOf_69 rfl (lv_at hl 0 rfl) ?_
      refine g_getR (b := 65) C hP gl_DeskModel_83 rfl rfl rfl d_Model_wayOf_70 ?_
      refine lv_iload_n hx hb d_Model_wayOf_73 rfl (lv_at hl 3 rfl) ?_
      obtain ⟨hi74, hM⟩ := gc_some hM
      refine g_iald C hP rfl hi74 d_Model_wayOf_74 ?_
      refine lv_aload_n hx hb d_Model_wayOf_75 rfl (lv_at hl 0 rfl) ?_
      refine g_getR (b := 65) C hP gl_DeskModel_83 rfl rfl rfl d_Model_wayOf_76 ?_
      refine lv_iload hx hb d_Model_wayOf_79 (lv_at hl 4 rfl) ?_
      obtain ⟨hi81, hM⟩ := gc_some hM
      refine g_iald C hP rfl hi81 d_Model_wayOf_81 ?_
      refine lv_icmp_le (tgt := 88) hx hb d_Model_wayOf_82 (by decide) (fun hc82 => ?_) (fun hc82 => ?_)
      · replace hM := gi_t hc82 hM
        refine lv_aload_n hx hb d_Model_wayOf_88 rfl (lv_at hl 0 rfl) ?_
        refine g_getR (b := 65) C hP gl_DeskModel_83 rfl rfl rfl d_Model_wayOf_89 ?_
        refine lv_iload_n hx hb d_Model_wayOf_92 rfl (lv_at hl 3 rfl) ?_
        refine lv_aload_n hx hb d_Model_wayOf_93 rfl (lv_at hl 0 rfl) ?_
        refine g_getR (b := 65) C hP gl_DeskModel_83 rfl rfl rfl d_Model_wayOf_94 ?_
        refine lv_iload hx hb d_Model_wayOf_97 (lv_at hl 4 rfl) ?_
        obtain ⟨hi99, hM⟩ := gc_some hM
        refine g_iald C hP rfl hi99 d_Model_wayOf_99 ?_
        refine lv_iconst (v := (1 : Int32)) hx hb d_Model_wayOf_100 (by decide) ?_
        refine lv_iadd hx hb d_Model_wayOf_101 ?_
        obtain ⟨hi102, hM⟩ := gc_some hM
        obtain ⟨u102, e102, hM⟩ := gb_some hM
        refine g_iast C hP hS rfl hi102 d_Model_wayOf_102 (fun H locs hP hS => ?_)
        rw [Option.some.inj e102] at hP
        refine lv_iconst (v := (1 : Int32)) hx hb d_Model_wayOf_103 (by decide) ?_
        refine lv_istore_n (lv' := [(2, .int (1 : Int32)), (0, .ref (ρ 42)), (1, .int x1), (3, .int x3), (4, .int x4)]) hx hb d_Model_wayOf_104 rfl hl (by decide) rfl (fun ls hl => ?_)
        exact t_Model_wayOf_b105 C hM hN hE0 ls H locs (lv_sub hl [1, 2, 0, 3, 4] rfl) hP hS
      · replace hM := gi_f hc82 hM
        refine lv_goto (tgt := 105) hx hb d_Model_wayOf_85 (by decide) ?_
        exact t_Model_wayOf_b105 C hM hN hE0 ls H locs (lv_sub hl [0, 1, 2, 3, 4] rfl) hP hS
noncomputable def M_Model_wayOf_L44 : (Int32 × Int32 × Int32 × Int32 × gSt) → Option ((Int32 × Int32 × Int32 × Int32 × gSt) ⊕ ((Int32 × Int32 × Int32 × gSt))) := fun x => M_Model_wayOf_b44 x.1 x.2.1 x.2.2.1 x.2.2.2.1 x.2.2.2.2
theorem t_Model_wayOf_L44 (C : gX "TermDeskModel" prog_13_method_46_code 5 (some .int) 0 0 R cells slots cy D ρ A p s m args meth c) {x1 : Int32} {x2 : Int32} {x3 : Int32} {x4 : Int32} {u : gSt} {yy : (Int32 × Int32 × Int32 × gSt)} (hL : gLp M_Model_wayOf_L44 (x1, x2, x3, x4, u) = some yy) (hE0 : (∀ y', yy = y' → gAt p l e R s m args below meth c Q H0 cells slots cy D ρ A 5 111 [(0, .ref (ρ 42)), (1, .int (y'.1)), (2, .int (y'.2.1)), (3, .int (y'.2.2.1))] [] (y'.2.2.2))) : gAt p l e R s m args below meth c Q H0 cells slots cy D ρ A 5 44 [(0, .ref (ρ 42)), (1, .int x1), (2, .int x2), (3, .int x3), (4, .int x4)] [] u :=
  g_loop (f := M_Model_wayOf_L44) (P := fun x => gAt p l e R s m args below meth c Q H0 cells slots cy D ρ A 5 44 [(0, .ref (ρ 42)), (1, .int x.1), (2, .int x.2.1), (3, .int x.2.2.1), (4, .int x.2.2.2.1)] [] x.2.2.2.2) (E := fun yy => (∀ y', yy = y' → gAt p l e R s m args below meth c Q H0 cells slots cy D ρ A 5 111 [(0, .ref (ρ 42)), (1, .int (y'.1)), (2, .int (y'.2.1)), (3, .int (y'.2.2.1))] [] (y'.2.2.2))) (fun x z hf hN hE => t_Model_wayOf_b44 C hf (fun x1' x2' x3' x4' u' h => hN (x1', x2', x3', x4', u') h) (fun x1' x2' x3' u' h => (hE _ h) (x1', x2', x3', u') rfl)) hL hE0
noncomputable def M_Model_wayOf_b33 (x1 : Int32) (x2 : Int32) (x3 : Int32) (u : gSt) : Option ((Int32 × Int32 × Int32 × gSt) ⊕ ((Int32 × Int32 × gSt))) :=
  if (u.1 42 11) ≤ x3 then
    (some (.inr (x1, x2, u)))
  else
    ((gLp M_Model_wayOf_L44 (x1, x2, x3, (0 : Int32), u)).bind fun y44 =>
    some (.inl (y44.1, y44.2.1, y44.2.2.1 + (1 : Int32), y44.2.2.2)))
set_option maxHeartbeats 4000000 in
set_option maxRecDepth 100000 in
theorem t_Model_wayOf_b33 (C : gX "TermDeskModel" prog_13_method_46_code 5 (some .int) 0 0 R cells slots cy D ρ A p s m args meth c) {x1 : Int32} {x2 : Int32} {x3 : Int32} {u : gSt} {z : (Int32 × Int32 × Int32 × gSt) ⊕ ((Int32 × Int32 × gSt))} (hM : M_Model_wayOf_b33 x1 x2 x3 u = some z) (hN : ∀ x1' x2' x3' u', z = .inl (x1', x2', x3', u') → gAt p l e R s m args below meth c Q H0 cells slots cy D ρ A 5 33 [(0, .ref (ρ 42)), (1, .int (x1')), (2, .int (x2')), (3, .int (x3'))] [] (u')) (hE0 : ∀ x1' x2' u', z = .inr (x1', x2', u') → gAt p l e R s m args below meth c Q H0 cells slots cy D ρ A 5 117 [(0, .ref (ρ 42)), (1, .int (x1')), (2, .int (x2'))] [] (u')) : gAt p l e R s m args below meth c Q H0 cells slots cy D ρ A 5 33 [(0, .ref (ρ 42)), (1, .int x1), (2, .int x2), (3, .int x3)] [] u := by
  intro ls H locs hl hP hS
  have hx := C.1
  have hb := C.2.1
  unfold M_Model_wayOf_b33 at hM
  refine lv_iload_n hx hb d_Model_wayOf_33 rfl (lv_at hl 3 rfl) ?_
  refine lv_aload_n hx hb d_Model_wayOf_34 rfl (lv_at hl 0 rfl) ?_
  refine g_getI C hP gl_DeskModel_184 rfl rfl d_Model_wayOf_35 ?_
  refine lv_icmp_ge (tgt := 117) hx hb d_Model_wayOf_38 (by decide) (fun hc38 => ?_) (fun hc38 => ?_)
  · replace hM := gi_t hc38 hM
    exact hE0 _ _ _ (Option.some.inj hM).symm ls H locs (lv_sub hl [0, 1, 2] rfl) hP hS
  · replace hM := gi_f hc38 hM
    refine lv_iconst (v := (0 : Int32)) hx hb d_Model_wayOf_41 (by decide) ?_
    refine lv_istore (lv' := [(4, .int (0 : Int32)), (0, .ref (ρ 42)), (1, .int x1), (2, .int x2), (3, .int x3)]) hx hb d_Model_wayOf_42 hl (by decide) rfl (fun ls hl => ?_)
    obtain ⟨y44, hL44, hM⟩ := gb_some hM
    refine t_Model_wayOf_L44 C hL44 (fun y44_0 hy => ?_) ls H locs (lv_sub hl [1, 2, 3, 4, 0] rfl) hP hS
    · subst hy
      intro ls H locs hl hP hS
      refine lv_iinc (k := 3) (v := y44.2.2.1 + (1 : Int32)) (lv' := [(3, .int (y44.2.2.1 + (1 : Int32))), (0, .ref (ρ 42)), (1, .int y44.1), (2, .int y44.2.1)]) hx hb d_Model_wayOf_111 hl rfl (congrArg (fun z => y44.2.2.1 + z) (by decide)) (by decide) rfl (fun ls hl => ?_)
      refine lv_goto (tgt := 33) hx hb d_Model_wayOf_114 (by decide) ?_
      exact hN _ _ _ _ (Option.some.inj hM).symm ls H locs (lv_sub hl [1, 2, 3, 0] rfl) hP hS
noncomputable def M_Model_wayOf_L33 : (Int32 × Int32 × Int32 × gSt) → Option ((Int32 × Int32 × Int32 × gSt) ⊕ ((Int32 × Int32 × gSt))) := fun x => M_Model_wayOf_b33 x.1 x.2.1 x.2.2.1 x.2.2.2
theorem t_Model_wayOf_L33 (C : gX "TermDeskModel" prog_13_method_46_code 5 (some .int) 0 0 R cells slots cy D ρ A p s m args meth c) {x1 : Int32} {x2 : Int32} {x3 : Int32} {u : gSt} {yy : (Int32 × Int32 × gSt)} (hL : gLp M_Model_wayOf_L33 (x1, x2, x3, u) = some yy) (hE0 : (∀ y', yy = y' → gAt p l e R s m args below meth c Q H0 cells slots cy D ρ A 5 117 [(0, .ref (ρ 42)), (1, .int (y'.1)), (2, .int (y'.2.1))] [] (y'.2.2))) : gAt p l e R s m args below meth c Q H0 cells slots cy D ρ A 5 33 [(0, .ref (ρ 42)), (1, .int x1), (2, .int x2), (3, .int x3)] [] u :=
  g_loop (f := M_Model_wayOf_L33) (P := fun x => gAt p l e R s m args below meth c Q H0 cells slots cy D ρ A 5 33 [(0, .ref (ρ 42)), (1, .int x.1), (2, .int x.2.1), (3, .int x.2.2.1)] [] x.2.2.2) (E := fun yy => (∀ y', yy = y' → gAt p l e R s m args below meth c Q H0 cells slots cy D ρ A 5 117 [(0, .ref (ρ 42)), (1, .int (y'.1)), (2, .int (y'.2.1))] [] (y'.2.2))) (fun x z hf hN hE => t_Model_wayOf_b33 C hf (fun x1' x2' x3' u' h => hN (x1', x2', x3', u') h) (fun x1' x2' u' h => (hE _ h) (x1', x2', u') rfl)) hL hE0
noncomputable def M_Model_wayOf_b25 (x1 : Int32) (x2 : Int32) (u : gSt) : Option ((Int32 × Int32 × gSt) ⊕ ((Int32 × gSt))) :=
  if x2 = (0 : Int32) then
    (some (.inr (x1, u)))
  else
    ((gLp M_Model_wayOf_L33 (x1, (0 : Int32), (0 : Int32), u)).bind fun y33 =>
    some (.inl (y33.1, y33.2.1, y33.2.2)))
set_option maxHeartbeats 4000000 in
set_option maxRecDepth 100000 in
theorem t_Model_wayOf_b25 (C : gX "TermDeskModel" prog_13_method_46_code 5 (some .int) 0 0 R cells slots cy D ρ A p s m args meth c) {x1 : Int32} {x2 : Int32} {u : gSt} {z : (Int32 × Int32 × gSt) ⊕ ((Int32 × gSt))} (hM : M_Model_wayOf_b25 x1 x2 u = some z) (hN : ∀ x1' x2' u', z = .inl (x1', x2', u') → gAt p l e R s m args below meth c Q H0 cells slots cy D ρ A 5 25 [(0, .ref (ρ 42)), (1, .int (x1')), (2, .int (x2'))] [] (u')) (hE0 : ∀ x1' u', z = .inr (x1', u') → gAt p l e R s m args below meth c Q H0 cells slots cy D ρ A 5 120 [(0, .ref (ρ 42)), (1, .int (x1'))] [] (u')) : gAt p l e R s m args below meth c Q H0 cells slots cy D ρ A 5 25 [(0, .ref (ρ 42)), (1, .int x1), (2, .int x2)] [] u := by
  intro ls H locs hl hP hS
  have hx := C.1
  have hb := C.2.1
  unfold M_Model_wayOf_b25 at hM
  refine lv_iload_n hx hb d_Model_wayOf_25 rfl (lv_at hl 2 rfl) ?_
  refine lv_if_eq (tgt := 120) hx hb d_Model_wayOf_26 (by decide) (fun hc26 => ?_) (fun hc26 => ?_)
  · replace hM := gi_t hc26 hM
    exact hE0 _ _ (Option.some.inj hM).symm ls H locs (lv_sub hl [0, 1] rfl) hP hS
  · replace hM := gi_f hc26 hM
    refine lv_iconst (v := (0 : Int32)) hx hb d_Model_wayOf_29 (by decide) ?_
    refine lv_istore_n (lv' := [(2, .int (0 : Int32)), (0, .ref (ρ 42)), (1, .int x1)]) hx hb d_Model_wayOf_30 rfl hl (by decide) rfl (fun ls hl => ?_)
    refine lv_iconst (v := (0 : Int32)) hx hb d_Model_wayOf_31 (by decide) ?_
    refine lv_istore_n (lv' := [(3, .int (0 : Int32)), (2, .int (0 : Int32)), (0, .ref (ρ 42)), (1, .int x1)]) hx hb d_Model_wayOf_32 rfl hl (by decide) rfl (fun ls hl => ?_)
    obtain ⟨y33, hL33, hM⟩ := gb_some hM
    refine t_Model_wayOf_L33 C hL33 (fun y33_0 hy => ?_) ls H locs (lv_sub hl [2, 3, 1, 0] rfl) hP hS
    · subst hy
      intro ls H locs hl hP hS
      refine lv_goto (tgt := 25) hx hb d_Model_wayOf_117 (by decide) ?_
      exact hN _ _ _ (Option.some.inj hM).symm ls H locs (lv_sub hl [0, 1, 2] rfl) hP hS
noncomputable def M_Model_wayOf_L25 : (Int32 × Int32 × gSt) → Option ((Int32 × Int32 × gSt) ⊕ ((Int32 × gSt))) := fun x => M_Model_wayOf_b25 x.1 x.2.1 x.2.2
theorem t_Model_wayOf_L25 (C : gX "TermDeskModel" prog_13_method_46_code 5 (some .int) 0 0 R cells slots cy D ρ A p s m args meth c) {x1 : Int32} {x2 : Int32} {u : gSt} {yy : (Int32 × gSt)} (hL : gLp M_Model_wayOf_L25 (x1, x2, u) = some yy) (hE0 : (∀ y', yy = y' → gAt p l e R s m args below meth c Q H0 cells slots cy D ρ A 5 120 [(0, .ref (ρ 42)), (1, .int (y'.1))] [] (y'.2))) : gAt p l e R s m args below meth c Q H0 cells slots cy D ρ A 5 25 [(0, .ref (ρ 42)), (1, .int x1), (2, .int x2)] [] u :=
  g_loop (f := M_Model_wayOf_L25) (P := fun x => gAt p l e R s m args below meth c Q H0 cells slots cy D ρ A 5 25 [(0, .ref (ρ 42)), (1, .int x.1), (2, .int x.2.1)] [] x.2.2) (E := fun yy => (∀ y', yy = y' → gAt p l e R s m args below meth c Q H0 cells slots cy D ρ A 5 120 [(0, .ref (ρ 42)), (1, .int (y'.1))] [] (y'.2))) (fun x z hf hN hE => t_Model_wayOf_b25 C hf (fun x1' x2' u' h => hN (x1', x2', u') h) (fun x1' u' h => (hE _ h) (x1', u') rfl)) hL hE0
noncomputable def M_Model_wayOf (x1 : Int32) (u : gSt) : Option ((Int32 × gSt)) :=
  (gLp M_Model_wayOf_L2 (x1, (0 : Int32), u)).bind fun y2 =>
  (gLp M_Model_wayOf_L25 (y2.1, (1 : Int32), y2.2)).bind fun y25 =>
  gc (gIn y25.1 (gLen 65)) <| some (y25.2.2.2.1 65 (gIx y25.1), y25.2)
set_option maxHeartbeats 4000000 in
set_option maxRecDepth 100000 in
theorem t_Model_wayOf (C : gX "TermDeskModel" prog_13_method_46_code 5 (some .int) 0 0 R cells slots cy D ρ A p s m args meth c) {x1 : Int32} {u : gSt} {z : (Int32 × gSt)} (hM : M_Model_wayOf x1 u = some z) (hR : gRtI p l e R s m args below meth c Q H0 cells slots cy D ρ A prog_13_method_46_code z.1 z.2) : gAt p l e R s m args below meth c Q H0 cells slots cy D ρ A 5 0 [(0, .ref (ρ 42)), (1, .int x1)] [] u := by
  intro ls H locs hl hP hS
  have hx := C.1
  have hb := C.2.1
  unfold M_Model_wayOf at hM
  refine lv_iconst (v := (0 : Int32)) hx hb d_Model_wayOf_0 (by decide) ?_
  refine lv_istore_n (lv' := [(2, .int (0 : Int32)), (0, .ref (ρ 42)), (1, .int x1)]) hx hb d_Model_wayOf_1 rfl hl (by decide) rfl (fun ls hl => ?_)
  obtain ⟨y2, hL2, hM⟩ := gb_some hM
  refine t_Model_wayOf_L2 C hL2 (fun y2_0 hy => ?_) ls H locs (lv_sub hl [1, 2, 0] rfl) hP hS
  · subst hy
    intro ls H locs hl hP hS
    refine lv_iconst (v := (1 : Int32)) hx hb d_Model_wayOf_23 (by decide) ?_
    refine lv_istore_n (lv' := [(2, .int (1 : Int32)), (0, .ref (ρ 42)), (1, .int y2.1)]) hx hb d_Model_wayOf_24 rfl hl (by decide) rfl (fun ls hl => ?_)
    obtain ⟨y25, hL25, hM⟩ := gb_some hM
    refine t_Model_wayOf_L25 C hL25 (fun y25_0 hy => ?_) ls H locs (lv_sub hl [1, 2, 0] rfl) hP hS
    · subst hy
      intro ls H locs hl hP hS
      refine lv_aload_n hx hb d_Model_wayOf_120 rfl (lv_at hl 0 rfl) ?_
      refine g_getR (b := 65) C hP gl_DeskModel_83 rfl rfl rfl d_Model_wayOf_121 ?_
      refine lv_iload_n hx hb d_Model_wayOf_124 rfl (lv_at hl 1 rfl) ?_
      obtain ⟨hi125, hM⟩ := gc_some hM
      refine g_iald C hP rfl hi125 d_Model_wayOf_125 ?_
      obtain rfl := Option.some.inj hM
      exact hR _ ls H locs d_Model_wayOf_126 hP hS
theorem c_Model_wayOf {l : Launch} {cy : Nat → ClassId} {D : va_G} {ρ : Nat → Nat} {A : Nat → Prop} (hD : gD ρ A) {x1 : Int32} {u : gSt} {z : (Int32 × gSt)} (hM : M_Model_wayOf x1 u = some z) : gCtI l y_Model_wayOf prog_13_method_46_code 5 (some .int) 0 0 cy D ρ A [.ref (ρ 42), .int x1] u z.1 z.2 :=
  g_met (by decide) hD (Nat.le_of_ble_eq_true rfl) (fun p e s m below meth c ls X hl hP => t_Model_wayOf X hM (fun pc ls H locs hd hP hS => g_iret X hP hS hd) ls _ [] hl hP va_S.rf)
end
section
variable {p : Program} {l : Launch} {e : Env} {R : Room} {s : State} {m : MethodId} {args : Array Value} {below : List Frame} {meth : Method} {c : Code} {Q : State → Prop} {H0 : Heap} {cells slots : Nat} {cy : Nat → ClassId} {D : va_G} {ρ : Nat → Nat} {A : Nat → Prop}
def y_Model_term : MethodName := ⟨"TermDeskModel", "term", "(II)I"⟩
theorem gi_Model_term : gMi y_Model_term prog_13_method_47_code 6 (some .int) 2 8 := ⟨(gWs_at 1273 (by decide +kernel) (by decide +kernel)), (gWs_at 1271 (by decide +kernel) (by decide +kernel)), (gWs_at 1272 (by decide +kernel) (by decide +kernel)), (gWs_at 125 (by decide +kernel) (by decide +kernel)), ⟨by decide +kernel, by decide +kernel, by decide +kernel⟩, _, _, rfl⟩
theorem gm_Law_85 : gMk "TermDeskLaw" 85 y_Model_term := Or.inl (gWs_at 1270 (by decide +kernel) (by decide +kernel))
theorem d_Model_term_0 : decode prog_13_method_47_code 0 = .ok (.aload_n 0, 1) := by decide +kernel
theorem d_Model_term_1 : decode prog_13_method_47_code 1 = .ok (.aload_n 0, 1) := by decide +kernel
theorem d_Model_term_2 : decode prog_13_method_47_code 2 = .ok (.iload_n 1, 1) := by decide +kernel
theorem d_Model_term_3 : decode prog_13_method_47_code 3 = .ok (.invokevirtual 249, 3) := by decide +kernel
theorem d_Model_term_6 : decode prog_13_method_47_code 6 = .ok (.ifCond .ne 7, 3) := by decide +kernel
theorem d_Model_term_9 : decode prog_13_method_47_code 9 = .ok (.iconst 1, 1) := by decide +kernel
theorem d_Model_term_10 : decode prog_13_method_47_code 10 = .ok (.goto 4, 3) := by decide +kernel
theorem d_Model_term_13 : decode prog_13_method_47_code 13 = .ok (.iconst 0, 1) := by decide +kernel
theorem d_Model_term_14 : decode prog_13_method_47_code 14 = .ok (.iconst 1, 1) := by decide +kernel
theorem d_Model_term_15 : decode prog_13_method_47_code 15 = .ok (.invokevirtual 133, 3) := by decide +kernel
theorem d_Model_term_18 : decode prog_13_method_47_code 18 = .ok (.ifCond .ne 26, 3) := by decide +kernel
theorem d_Model_term_21 : decode prog_13_method_47_code 21 = .ok (.aload_n 0, 1) := by decide +kernel
theorem d_Model_term_22 : decode prog_13_method_47_code 22 = .ok (.iload_n 2, 1) := by decide +kernel
theorem d_Model_term_23 : decode prog_13_method_47_code 23 = .ok (.ifCond .lt 9, 3) := by decide +kernel
theorem d_Model_term_26 : decode prog_13_method_47_code 26 = .ok (.iload_n 2, 1) := by decide +kernel
theorem d_Model_term_27 : decode prog_13_method_47_code 27 = .ok (.bipush 6, 2) := by decide +kernel
theorem d_Model_term_29 : decode prog_13_method_47_code 29 = .ok (.if_icmp .le 7, 3) := by decide +kernel
theorem d_Model_term_32 : decode prog_13_method_47_code 32 = .ok (.iconst 1, 1) := by decide +kernel
theorem d_Model_term_33 : decode prog_13_method_47_code 33 = .ok (.goto 4, 3) := by decide +kernel
theorem d_Model_term_36 : decode prog_13_method_47_code 36 = .ok (.iconst 0, 1) := by decide +kernel
theorem d_Model_term_37 : decode prog_13_method_47_code 37 = .ok (.iconst 2, 1) := by decide +kernel
theorem d_Model_term_38 : decode prog_13_method_47_code 38 = .ok (.invokevirtual 133, 3) := by decide +kernel
theorem d_Model_term_41 : decode prog_13_method_47_code 41 = .ok (.ifCond .eq 5, 3) := by decide +kernel
theorem d_Model_term_44 : decode prog_13_method_47_code 44 = .ok (.iconst 0, 1) := by decide +kernel
theorem d_Model_term_45 : decode prog_13_method_47_code 45 = .ok (.ireturn, 1) := by decide +kernel
theorem d_Model_term_46 : decode prog_13_method_47_code 46 = .ok (.iload_n 2, 1) := by decide +kernel
theorem d_Model_term_47 : decode prog_13_method_47_code 47 = .ok (.iconst 3, 1) := by decide +kernel
theorem d_Model_term_48 : decode prog_13_method_47_code 48 = .ok (.if_icmp .eq 8, 3) := by decide +kernel
theorem d_Model_term_51 : decode prog_13_method_47_code 51 = .ok (.iload_n 2, 1) := by decide +kernel
theorem d_Model_term_52 : decode prog_13_method_47_code 52 = .ok (.iconst 4, 1) := by decide +kernel
theorem d_Model_term_53 : decode prog_13_method_47_code 53 = .ok (.if_icmp .ne 19, 3) := by decide +kernel
theorem d_Model_term_56 : decode prog_13_method_47_code 56 = .ok (.aload_n 0, 1) := by decide +kernel
theorem d_Model_term_57 : decode prog_13_method_47_code 57 = .ok (.iload_n 1, 1) := by decide +kernel
theorem d_Model_term_58 : decode prog_13_method_47_code 58 = .ok (.iload_n 2, 1) := by decide +kernel
theorem d_Model_term_59 : decode prog_13_method_47_code 59 = .ok (.iconst 4, 1) := by decide +kernel
theorem d_Model_term_60 : decode prog_13_method_47_code 60 = .ok (.if_icmp .ne 7, 3) := by decide +kernel
theorem d_Model_term_63 : decode prog_13_method_47_code 63 = .ok (.iconst 1, 1) := by decide +kernel
theorem d_Model_term_64 : decode prog_13_method_47_code 64 = .ok (.goto 4, 3) := by decide +kernel
theorem d_Model_term_67 : decode prog_13_method_47_code 67 = .ok (.iconst 0, 1) := by decide +kernel
theorem d_Model_term_68 : decode prog_13_method_47_code 68 = .ok (.invokevirtual 239, 3) := by decide +kernel
theorem d_Model_term_71 : decode prog_13_method_47_code 71 = .ok (.ireturn, 1) := by decide +kernel
theorem d_Model_term_72 : decode prog_13_method_47_code 72 = .ok (.iload_n 2, 1) := by decide +kernel
theorem d_Model_term_73 : decode prog_13_method_47_code 73 = .ok (.iconst 5, 1) := by decide +kernel
theorem d_Model_term_74 : decode prog_13_method_47_code 74 = .ok (.if_icmp .ne 10, 3) := by decide +kernel
theorem d_Model_term_77 : decode prog_13_method_47_code 77 = .ok (.aload_n 0, 1) := by decide +kernel
theorem d_Model_term_78 : decode prog_13_method_47_code 78 = .ok (.getfield 34, 3) := by decide +kernel
theorem d_Model_term_81 : decode prog_13_method_47_code 81 = .ok (.iload_n 1, 1) := by decide +kernel
theorem d_Model_term_82 : decode prog_13_method_47_code 82 = .ok (.iaload, 1) := by decide +kernel
theorem d_Model_term_83 : decode prog_13_method_47_code 83 = .ok (.ireturn, 1) := by decide +kernel
theorem d_Model_term_84 : decode prog_13_method_47_code 84 = .ok (.iload_n 2, 1) := by decide +kernel
theorem d_Model_term_85 : decode prog_13_method_47_code 85 = .ok (.bipush 6, 2) := by decide +kernel
theorem d_Model_term_87 : decode prog_13_method_47_code 87 = .ok (.if_icmp .ne 9, 3) := by decide +kernel
theorem d_Model_term_90 : decode prog_13_method_47_code 90 = .ok (.aload_n 0, 1) := by decide +kernel
theorem d_Model_term_91 : decode prog_13_method_47_code 91 = .ok (.iload_n 1, 1) := by decide +kernel
theorem d_Model_term_92 : decode prog_13_method_47_code 92 = .ok (.invokevirtual 252, 3) := by decide +kernel
theorem d_Model_term_95 : decode prog_13_method_47_code 95 = .ok (.ireturn, 1) := by decide +kernel
theorem d_Model_term_96 : decode prog_13_method_47_code 96 = .ok (.iconst 0, 1) := by decide +kernel
theorem d_Model_term_97 : decode prog_13_method_47_code 97 = .ok (.istore_n 3, 1) := by decide +kernel
theorem d_Model_term_98 : decode prog_13_method_47_code 98 = .ok (.iconst 0, 1) := by decide +kernel
theorem d_Model_term_99 : decode prog_13_method_47_code 99 = .ok (.istore 4, 2) := by decide +kernel
theorem d_Model_term_101 : decode prog_13_method_47_code 101 = .ok (.iload 4, 2) := by decide +kernel
theorem d_Model_term_103 : decode prog_13_method_47_code 103 = .ok (.aload_n 0, 1) := by decide +kernel
theorem d_Model_term_104 : decode prog_13_method_47_code 104 = .ok (.getfield 184, 3) := by decide +kernel
theorem d_Model_term_107 : decode prog_13_method_47_code 107 = .ok (.if_icmp .ge 78, 3) := by decide +kernel
theorem d_Model_term_110 : decode prog_13_method_47_code 110 = .ok (.iload_n 2, 1) := by decide +kernel
theorem d_Model_term_111 : decode prog_13_method_47_code 111 = .ok (.ifCond .ne 19, 3) := by decide +kernel
theorem d_Model_term_114 : decode prog_13_method_47_code 114 = .ok (.aload_n 0, 1) := by decide +kernel
theorem d_Model_term_115 : decode prog_13_method_47_code 115 = .ok (.getfield 37, 3) := by decide +kernel
theorem d_Model_term_118 : decode prog_13_method_47_code 118 = .ok (.sipush 200, 3) := by decide +kernel
theorem d_Model_term_121 : decode prog_13_method_47_code 121 = .ok (.iload_n 1, 1) := by decide +kernel
theorem d_Model_term_122 : decode prog_13_method_47_code 122 = .ok (.imul, 1) := by decide +kernel
theorem d_Model_term_123 : decode prog_13_method_47_code 123 = .ok (.iload 4, 2) := by decide +kernel
theorem d_Model_term_125 : decode prog_13_method_47_code 125 = .ok (.iadd, 1) := by decide +kernel
theorem d_Model_term_126 : decode prog_13_method_47_code 126 = .ok (.baload, 1) := by decide +kernel
theorem d_Model_term_127 : decode prog_13_method_47_code 127 = .ok (.goto 37, 3) := by decide +kernel
theorem d_Model_term_130 : decode prog_13_method_47_code 130 = .ok (.iload_n 2, 1) := by decide +kernel
theorem d_Model_term_131 : decode prog_13_method_47_code 131 = .ok (.iconst 1, 1) := by decide +kernel
theorem d_Model_term_132 : decode prog_13_method_47_code 132 = .ok (.if_icmp .ne 19, 3) := by decide +kernel
theorem d_Model_term_135 : decode prog_13_method_47_code 135 = .ok (.aload_n 0, 1) := by decide +kernel
theorem d_Model_term_136 : decode prog_13_method_47_code 136 = .ok (.getfield 41, 3) := by decide +kernel
theorem d_Model_term_139 : decode prog_13_method_47_code 139 = .ok (.sipush 200, 3) := by decide +kernel
theorem d_Model_term_142 : decode prog_13_method_47_code 142 = .ok (.iload_n 1, 1) := by decide +kernel
theorem d_Model_term_143 : decode prog_13_method_47_code 143 = .ok (.imul, 1) := by decide +kernel
theorem d_Model_term_144 : decode prog_13_method_47_code 144 = .ok (.iload 4, 2) := by decide +kernel
theorem d_Model_term_146 : decode prog_13_method_47_code 146 = .ok (.iadd, 1) := by decide +kernel
theorem d_Model_term_147 : decode prog_13_method_47_code 147 = .ok (.baload, 1) := by decide +kernel
theorem d_Model_term_148 : decode prog_13_method_47_code 148 = .ok (.goto 16, 3) := by decide +kernel
theorem d_Model_term_151 : decode prog_13_method_47_code 151 = .ok (.aload_n 0, 1) := by decide +kernel
theorem d_Model_term_152 : decode prog_13_method_47_code 152 = .ok (.getfield 41, 3) := by decide +kernel
theorem d_Model_term_155 : decode prog_13_method_47_code 155 = .ok (.sipush 200, 3) := by decide +kernel
theorem d_Model_term_158 : decode prog_13_method_47_code 158 = .ok (.iload 4, 2) := by decide +kernel
theorem d_Model_term_160 : decode prog_13_method_47_code 160 = .ok (.imul, 1) := by decide +kernel
theorem d_Model_term_161 : decode prog_13_method_47_code 161 = .ok (.iload_n 1, 1) := by decide +kernel
theorem d_Model_term_162 : decode prog_13_method_47_code 162 = .ok (.iadd, 1) := by decide +kernel
theorem d_Model_term_163 : decode prog_13_method_47_code 163 = .ok (.baload, 1) := by decide +kernel
theorem d_Model_term_164 : decode prog_13_method_47_code 164 = .ok (.istore 5, 2) := by decide +kernel
theorem d_Model_term_166 : decode prog_13_method_47_code 166 = .ok (.iload_n 3, 1) := by decide +kernel
theorem d_Model_term_167 : decode prog_13_method_47_code 167 = .ok (.iload 5, 2) := by decide +kernel
theorem d_Model_term_169 : decode prog_13_method_47_code 169 = .ok (.ifCond .eq 7, 3) := by decide +kernel
theorem d_Model_term_172 : decode prog_13_method_47_code 172 = .ok (.iconst 1, 1) := by decide +kernel
theorem d_Model_term_173 : decode prog_13_method_47_code 173 = .ok (.goto 4, 3) := by decide +kernel
theorem d_Model_term_176 : decode prog_13_method_47_code 176 = .ok (.iconst 0, 1) := by decide +kernel
theorem d_Model_term_177 : decode prog_13_method_47_code 177 = .ok (.iadd, 1) := by decide +kernel
theorem d_Model_term_178 : decode prog_13_method_47_code 178 = .ok (.istore_n 3, 1) := by decide +kernel
theorem d_Model_term_179 : decode prog_13_method_47_code 179 = .ok (.iinc 4 1, 3) := by decide +kernel
theorem d_Model_term_182 : decode prog_13_method_47_code 182 = .ok (.goto (-81), 3) := by decide +kernel
theorem d_Model_term_185 : decode prog_13_method_47_code 185 = .ok (.iload_n 3, 1) := by decide +kernel
theorem d_Model_term_186 : decode prog_13_method_47_code 186 = .ok (.ireturn, 1) := by decide +kernel
noncomputable def M_Model_term_b44 (u : gSt) : Option ((Int32 × gSt)) :=
  some ((0 : Int32), u)
set_option maxHeartbeats 4000000 in
set_option maxRecDepth 100000 in
theorem t_Model_term_b44 (C : gX "TermDeskModel" prog_13_method_47_code 6 (some .int) 2 48 R cells slots cy D ρ A p s m args meth c) {u : gSt} {z : (Int32 × gSt)} (hM : M_Model_term_b44 u = some z) (hR : gRtI p l e R s m args below meth c Q H0 cells slots cy D ρ A prog_13_method_47_code z.1 z.2) : gAt p l e R s m args below meth c Q H0 cells slots cy D ρ A 6 44 [] [] u := by
  intro ls H locs hl hP hS
  have hx := C.1
  have hb := C.2.1
  unfold M_Model_term_b44 at hM
  refine lv_iconst (v := (0 : Int32)) hx hb d_Model_term_44 (by decide) ?_
  obtain rfl := Option.some.inj hM
  exact hR _ ls H locs d_Model_term_45 hP hS
noncomputable def M_Model_term_b68 (s0 : Int32) (s1 : Int32) (u : gSt) : Option ((Int32 × gSt)) :=
  (M_Model_genesAt s1 s0 u).bind fun q68 =>
  some (q68.1, q68.2)
set_option maxHeartbeats 4000000 in
set_option maxRecDepth 100000 in
theorem t_Model_term_b68 (C : gX "TermDeskModel" prog_13_method_47_code 6 (some .int) 2 48 R cells slots cy D ρ A p s m args meth c) {s0 : Int32} {s1 : Int32} {u : gSt} {z : (Int32 × gSt)} (hM : M_Model_term_b68 s0 s1 u = some z) (hR : gRtI p l e R s m args below meth c Q H0 cells slots cy D ρ A prog_13_method_47_code z.1 z.2) : gAt p l e R s m args below meth c Q H0 cells slots cy D ρ A 6 68 [] [.int s0, .int s1, .ref (ρ 42)] u := by
  intro ls H locs hl hP hS
  have hx := C.1
  have hb := C.2.1
  unfold M_Model_term_b68 at hM
  obtain ⟨q68, hq68, hM⟩ := gb_some hM
  refine g_backI (g_runV (As := [.int s1, .int s0]) C hP (c_Model_genesAt C.2.2.2.2.2.2.2.2.1 hq68) gi_Model_genesAt gm_Model_239 rfl rfl (by decide) (by decide) hl.1 rfl (Nat.le_of_ble_eq_true rfl) d_Model_term_68) hS (fun H locs hP hS => ?_)
  obtain rfl := Option.some.inj hM
  exact hR _ ls H locs d_Model_term_71 hP hS
noncomputable def M_Model_term_b56 (x1 : Int32) (x2 : Int32) (u : gSt) : Option ((Int32 × gSt)) :=
  if x2 = (4 : Int32) then
    (M_Model_term_b68 (1 : Int32) x1 u)
  else
    (M_Model_term_b68 (0 : Int32) x1 u)
set_option maxHeartbeats 4000000 in
set_option maxRecDepth 100000 in
theorem t_Model_term_b56 (C : gX "TermDeskModel" prog_13_method_47_code 6 (some .int) 2 48 R cells slots cy D ρ A p s m args meth c) {x1 : Int32} {x2 : Int32} {u : gSt} {z : (Int32 × gSt)} (hM : M_Model_term_b56 x1 x2 u = some z) (hR : gRtI p l e R s m args below meth c Q H0 cells slots cy D ρ A prog_13_method_47_code z.1 z.2) : gAt p l e R s m args below meth c Q H0 cells slots cy D ρ A 6 56 [(0, .ref (ρ 42)), (1, .int x1), (2, .int x2)] [] u := by
  intro ls H locs hl hP hS
  have hx := C.1
  have hb := C.2.1
  unfold M_Model_term_b56 at hM
  refine lv_aload_n hx hb d_Model_term_56 rfl (lv_at hl 0 rfl) ?_
  refine lv_iload_n hx hb d_Model_term_57 rfl (lv_at hl 1 rfl) ?_
  refine lv_iload_n hx hb d_Model_term_58 rfl (lv_at hl 2 rfl) ?_
  refine lv_iconst (v := (4 : Int32)) hx hb d_Model_term_59 (by decide) ?_
  refine lv_icmp_ne (tgt := 67) hx hb d_Model_term_60 (by decide) (fun hc60 => ?_) (fun hc60 => ?_)
  · replace hM := gi_f hc60 hM
    refine lv_iconst (v := (0 : Int32)) hx hb d_Model_term_67 (by decide) ?_
    exact t_Model_term_b68 C hM hR ls H locs (lv_sub hl [] rfl) hP hS
  · replace hM := gi_t hc60 hM
    refine lv_iconst (v := (1 : Int32)) hx hb d_Model_term_63 (by decide) ?_
    refine lv_goto (tgt := 68) hx hb d_Model_term_64 (by decide) ?_
    exact t_Model_term_b68 C hM hR ls H locs (lv_sub hl [] rfl) hP hS
noncomputable def M_Model_term_b177 (x1 : Int32) (x2 : Int32) (x4 : Int32) (s0 : Int32) (s1 : Int32) (u : gSt) : Option ((Int32 × Int32 × Int32 × Int32 × gSt) ⊕ ((Int32 × gSt))) :=
  some (.inl (x1, x2, s1 + s0, x4 + (1 : Int32), u))
set_option maxHeartbeats 4000000 in
set_option maxRecDepth 100000 in
theorem t_Model_term_b177 (C : gX "TermDeskModel" prog_13_method_47_code 6 (some .int) 2 48 R cells slots cy D ρ A p s m args meth c) {x1 : Int32} {x2 : Int32} {x4 : Int32} {s0 : Int32} {s1 : Int32} {u : gSt} {z : (Int32 × Int32 × Int32 × Int32 × gSt) ⊕ ((Int32 × gSt))} (hM : M_Model_term_b177 x1 x2 x4 s0 s1 u = some z) (hN : ∀ x1' x2' x3' x4' u', z = .inl (x1', x2', x3', x4', u') → gAt p l e R s m args below meth c Q H0 cells slots cy D ρ A 6 101 [(0, .ref (ρ 42)), (1, .int (x1')), (2, .int (x2')), (3, .int (x3')), (4, .int (x4'))] [] (u')) (hE0 : ∀ x3' u', z = .inr (x3', u') → gAt p l e R s m args below meth c Q H0 cells slots cy D ρ A 6 185 [(3, .int (x3'))] [] (u')) : gAt p l e R s m args below meth c Q H0 cells slots cy D ρ A 6 177 [(0, .ref (ρ 42)), (1, .int x1), (2, .int x2), (4, .int x4)] [.int s0, .int s1] u := by
  intro ls H locs hl hP hS
  have hx := C.1
  have hb := C.2.1
  unfold M_Model_term_b177 at hM
  refine lv_iadd hx hb d_Model_term_177 ?_
  refine lv_istore_n (lv' := [(3, .int (s1 + s0)), (0, .ref (ρ 42)), (1, .int x1), (2, .int x2), (4, .int x4)]) hx hb d_Model_term_178 rfl hl (by decide) rfl (fun ls hl => ?_)
  refine lv_iinc (k := 4) (v := x4 + (1 : Int32)) (lv' := [(4, .int (x4 + (1 : Int32))), (3, .int (s1 + s0)), (0, .ref (ρ 42)), (1, .int x1), (2, .int x2)]) hx hb d_Model_term_179 hl rfl (congrArg (fun z => x4 + z) (by decide)) (by decide) rfl (fun ls hl => ?_)
  refine lv_goto (tgt := 101) hx hb d_Model_term_182 (by decide) ?_
  exact hN _ _ _ _ _ (Option.some.inj hM).symm ls H locs (lv_sub hl [2, 3, 4, 1, 0] rfl) hP hS
noncomputable def M_Model_term_b164 (x1 : Int32) (x2 : Int32) (x3 : Int32) (x4 : Int32) (s0 : Int32) (u : gSt) : Option ((Int32 × Int32 × Int32 × Int32 × gSt) ⊕ ((Int32 × gSt))) :=
  if s0 = (0 : Int32) then
    (M_Model_term_b177 x1 x2 x4 (0 : Int32) x3 u)
  else
    (M_Model_term_b177 x1 x2 x4 (1 : Int32) x3 u)
set_option maxHeartbeats 4000000 in
set_option maxRecDepth 100000 in
theorem t_Model_term_b164 (C : gX "TermDeskModel" prog_13_method_47_code 6 (some .int) 2 48 R cells slots cy D ρ A p s m args meth c) {x1 : Int32} {x2 : Int32} {x3 : Int32} {x4 : Int32} {s0 : Int32} {u : gSt} {z : (Int32 × Int32 × Int32 × Int32 × gSt) ⊕ ((Int32 × gSt))} (hM : M_Model_term_b164 x1 x2 x3 x4 s0 u = some z) (hN : ∀ x1' x2' x3' x4' u', z = .inl (x1', x2', x3', x4', u') → gAt p l e R s m args below meth c Q H0 cells slots cy D ρ A 6 101 [(0, .ref (ρ 42)), (1, .int (x1')), (2, .int (x2')), (3, .int (x3')), (4, .int (x4'))] [] (u')) (hE0 : ∀ x3' u', z = .inr (x3', u') → gAt p l e R s m args below meth c Q H0 cells slots cy D ρ A 6 185 [(3, .int (x3'))] [] (u')) : gAt p l e R s m args below meth c Q H0 cells slots cy D ρ A 6 164 [(0, .ref (ρ 42)), (1, .int x1), (2, .int x2), (3, .int x3), (4, .int x4)] [.int s0] u := by
  intro ls H locs hl hP hS
  have hx := C.1
  have hb := C.2.1
  unfold M_Model_term_b164 at hM
  refine lv_istore (lv' := [(5, .int s0), (0, .ref (ρ 42)), (1, .int x1), (2, .int x2), (3, .int x3), (4, .int x4)]) hx hb d_Model_term_164 hl (by decide) rfl (fun ls hl => ?_)
  refine lv_iload_n hx hb d_Model_term_166 rfl (lv_at hl 4 rfl) ?_
  refine lv_iload hx hb d_Model_term_167 (lv_at hl 0 rfl) ?_
  refine lv_if_eq (tgt := 176) hx hb d_Model_term_169 (by decide) (fun hc169 => ?_) (fun hc169 => ?_)
  · replace hM := gi_t hc169 hM
    refine lv_iconst (v := (0 : Int32)) hx hb d_Model_term_176 (by decide) ?_
    exact t_Model_term_b177 C hM hN hE0 ls H locs (lv_sub hl [1, 2, 3, 5] rfl) hP hS
  · replace hM := gi_f hc169 hM
    refine lv_iconst (v := (1 : Int32)) hx hb d_Model_term_172 (by decide) ?_
    refine lv_goto (tgt := 177) hx hb d_Model_term_173 (by decide) ?_
    exact t_Model_term_b177 C hM hN hE0 ls H locs (lv_sub hl [1, 2, 3, 5] rfl) hP hS
noncomputable def M_Model_term_b101 (x1 : Int32) (x2 : Int32) (x3 : Int32) (x4 : Int32) (u : gSt) : Option ((Int32 × Int32 × Int32 × Int32 × gSt) ⊕ ((Int32 × gSt))) :=
  if (u.1 42 11) ≤ x4 then
    (some (.inr (x3, u)))
  else
    (if x2 = (0 : Int32) then
      (gc (gIn (((200 : Int32) * x1) + x4) (gLen 50)) <| M_Model_term_b164 x1 x2 x3 x4 (u.2.2.1 50 (gIx (((200 : Int32) * x1) + x4))) u)
    else
      (if x2 = (1 : Int32) then
        (gc (gIn (((200 : Int32) * x1) + x4) (gLen 51)) <| M_Model_term_b164 x1 x2 x3 x4 (u.2.2.1 51 (gIx (((200 : Int32) * x1) + x4))) u)
      else
        (gc (gIn (((200 : Int32) * x4) + x1) (gLen 51)) <| M_Model_term_b164 x1 x2 x3 x4 (u.2.2.1 51 (gIx (((200 : Int32) * x4) + x1))) u)))
set_option maxHeartbeats 4000000 in
set_option maxRecDepth 100000 in
theorem t_Model_term_b101 (C : gX "TermDeskModel" prog_13_method_47_code 6 (some .int) 2 48 R cells slots cy D ρ A p s m args meth c) {x1 : Int32} {x2 : Int32} {x3 : Int32} {x4 : Int32} {u : gSt} {z : (Int32 × Int32 × Int32 × Int32 × gSt) ⊕ ((Int32 × gSt))} (hM : M_Model_term_b101 x1 x2 x3 x4 u = some z) (hN : ∀ x1' x2' x3' x4' u', z = .inl (x1', x2', x3', x4', u') → gAt p l e R s m args below meth c Q H0 cells slots cy D ρ A 6 101 [(0, .ref (ρ 42)), (1, .int (x1')), (2, .int (x2')), (3, .int (x3')), (4, .int (x4'))] [] (u')) (hE0 : ∀ x3' u', z = .inr (x3', u') → gAt p l e R s m args below meth c Q H0 cells slots cy D ρ A 6 185 [(3, .int (x3'))] [] (u')) : gAt p l e R s m args below meth c Q H0 cells slots cy D ρ A 6 101 [(0, .ref (ρ 42)), (1, .int x1), (2, .int x2), (3, .int x3), (4, .int x4)] [] u := by
  intro ls H locs hl hP hS
  have hx := C.1
  have hb := C.2.1
  unfold M_Model_term_b101 at hM
  refine lv_iload hx hb d_Model_term_101 (lv_at hl 4 rfl) ?_
  refine lv_aload_n hx hb d_Model_term_103 rfl (lv_at hl 0 rfl) ?_
  refine g_getI C hP gl_DeskModel_184 rfl rfl d_Model_term_104 ?_
  refine lv_icmp_ge (tgt := 185) hx hb d_Model_term_107 (by decide) (fun hc107 => ?_) (fun hc107 => ?_)
  · replace hM := gi_t hc107 hM
    exact hE0 _ _ (Option.some.inj hM).symm ls H locs (lv_sub hl [3] rfl) hP hS
  · replace hM := gi_f hc107 hM
    refine lv_iload_n hx hb d_Model_term_110 rfl (lv_at hl 2 rfl) ?_
    refine lv_if_ne (tgt := 130) hx hb d_Model_term_111 (by decide) (fun hc111 => ?_) (fun hc111 => ?_)
    · replace hM := gi_f hc111 hM
      refine lv_iload_n hx hb d_Model_term_130 rfl (lv_at hl 2 rfl) ?_
      refine lv_iconst (v := (1 : Int32)) hx hb d_Model_term_131 (by decide) ?_
      refine lv_icmp_ne (tgt := 151) hx hb d_Model_term_132 (by decide) (fun hc132 => ?_) (fun hc132 => ?_)
      · replace hM := gi_f hc132 hM
        refine lv_aload_n hx hb d_Model_term_151 rfl (lv_at hl 0 rfl) ?_
        refine g_getR (b := 51) C hP gl_DeskModel_41 rfl rfl rfl d_Model_term_152 ?_
        refine lv_sipush (v := (200 : Int32)) hx hb d_Model_term_155 (by decide) ?_
        refine lv_iload hx hb d_Model_term_158 (lv_at hl 4 rfl) ?_
        refine lv_imul hx hb d_Model_term_160 ?_
        refine lv_iload_n hx hb d_Model_term_161 rfl (lv_at hl 1 rfl) ?_
        refine lv_iadd hx hb d_Model_term_162 ?_
        obtain ⟨hi163, hM⟩ := gc_some hM
        refine g_zald C hP rfl hi163 d_Model_term_163 ?_
        exact t_Model_term_b164 C hM hN hE0 ls H locs (lv_sub hl [0, 1, 2, 3, 4] rfl) hP hS
      · replace hM := gi_t hc132 hM
        refine lv_aload_n hx hb d_Model_term_135 rfl (lv_at hl 0 rfl) ?_
        refine g_getR (b := 51) C hP gl_DeskModel_41 rfl rfl rfl d_Model_term_136 ?_
        refine lv_sipush (v := (200 : Int32)) hx hb d_Model_term_139 (by decide) ?_
        refine lv_iload_n hx hb d_Model_term_142 rfl (lv_at hl 1 rfl) ?_
        refine lv_imul hx hb d_Model_term_143 ?_
        refine lv_iload hx hb d_Model_term_144 (lv_at hl 4 rfl) ?_
        refine lv_iadd hx hb d_Model_term_146 ?_
        obtain ⟨hi147, hM⟩ := gc_some hM
        refine g_zald C hP rfl hi147 d_Model_term_147 ?_
        refine lv_goto (tgt := 164) hx hb d_Model_term_148 (by decide) ?_
        exact t_Model_term_b164 C hM hN hE0 ls H locs (lv_sub hl [0, 1, 2, 3, 4] rfl) hP hS
    · replace hM := gi_t hc111 hM
      refine lv_aload_n hx hb d_Model_term_114 rfl (lv_at hl 0 rfl) ?_
      refine g_getR (b := 50) C hP gl_DeskModel_37 rfl rfl rfl d_Model_term_115 ?_
      refine lv_sipush (v := (200 : Int32)) hx hb d_Model_term_118 (by decide) ?_
      refine lv_iload_n hx hb d_Model_term_121 rfl (lv_at hl 1 rfl) ?_
      refine lv_imul hx hb d_Model_term_122 ?_
      refine lv_iload hx hb d_Model_term_123 (lv_at hl 4 rfl) ?_
      refine lv_iadd hx hb d_Model_term_125 ?_
      obtain ⟨hi126, hM⟩ := gc_some hM
      refine g_zald C hP rfl hi126 d_Model_term_126 ?_
      refine lv_goto (tgt := 164) hx hb d_Model_term_127 (by decide) ?_
      exact t_Model_term_b164 C hM hN hE0 ls H locs (lv_sub hl [0, 1, 2, 3, 4] rfl) hP hS
noncomputable def M_Model_term_L101 : (Int32 × Int32 × Int32 × Int32 × gSt) → Option ((Int32 × Int32 × Int32 × Int32 × gSt) ⊕ ((Int32 × gSt))) := fun x => M_Model_term_b101 x.1 x.2.1 x.2.2.1 x.2.2.2.1 x.2.2.2.2
theorem t_Model_term_L101 (C : gX "TermDeskModel" prog_13_method_47_code 6 (some .int) 2 48 R cells slots cy D ρ A p s m args meth c) {x1 : Int32} {x2 : Int32} {x3 : Int32} {x4 : Int32} {u : gSt} {yy : (Int32 × gSt)} (hL : gLp M_Model_term_L101 (x1, x2, x3, x4, u) = some yy) (hE0 : (∀ y', yy = y' → gAt p l e R s m args below meth c Q H0 cells slots cy D ρ A 6 185 [(3, .int (y'.1))] [] (y'.2))) : gAt p l e R s m args below meth c Q H0 cells slots cy D ρ A 6 101 [(0, .ref (ρ 42)), (1, .int x1), (2, .int x2), (3, .int x3), (4, .int x4)] [] u :=
  g_loop (f := M_Model_term_L101) (P := fun x => gAt p l e R s m args below meth c Q H0 cells slots cy D ρ A 6 101 [(0, .ref (ρ 42)), (1, .int x.1), (2, .int x.2.1), (3, .int x.2.2.1), (4, .int x.2.2.2.1)] [] x.2.2.2.2) (E := fun yy => (∀ y', yy = y' → gAt p l e R s m args below meth c Q H0 cells slots cy D ρ A 6 185 [(3, .int (y'.1))] [] (y'.2))) (fun x z hf hN hE => t_Model_term_b101 C hf (fun x1' x2' x3' x4' u' h => hN (x1', x2', x3', x4', u') h) (fun x3' u' h => (hE _ h) (x3', u') rfl)) hL hE0
noncomputable def M_Model_term_b37 (x1 : Int32) (x2 : Int32) (s0 : Int32) (u : gSt) : Option ((Int32 × gSt)) :=
  (M_Model_fails s0 (2 : Int32) u).bind fun q38 =>
  if q38.1 = (0 : Int32) then
    (if x2 = (3 : Int32) then
      (M_Model_term_b56 x1 x2 q38.2)
    else
      (if x2 = (4 : Int32) then
        (M_Model_term_b56 x1 x2 q38.2)
      else
        (if x2 = (5 : Int32) then
          (gc (gIn x1 (gLen 49)) <| some (q38.2.2.2.1 49 (gIx x1), q38.2))
        else
          (if x2 = (6 : Int32) then
            ((M_Model_wayOf x1 q38.2).bind fun q92 =>
            some (q92.1, q92.2))
          else
            ((gLp M_Model_term_L101 (x1, x2, (0 : Int32), (0 : Int32), q38.2)).bind fun y101 =>
            some (y101.1, y101.2))))))
  else
    (M_Model_term_b44 q38.2)
set_option maxHeartbeats 4000000 in
set_option maxRecDepth 100000 in
theorem t_Model_term_b37 (C : gX "TermDeskModel" prog_13_method_47_code 6 (some .int) 2 48 R cells slots cy D ρ A p s m args meth c) {x1 : Int32} {x2 : Int32} {s0 : Int32} {u : gSt} {z : (Int32 × gSt)} (hM : M_Model_term_b37 x1 x2 s0 u = some z) (hR : gRtI p l e R s m args below meth c Q H0 cells slots cy D ρ A prog_13_method_47_code z.1 z.2) : gAt p l e R s m args below meth c Q H0 cells slots cy D ρ A 6 37 [(0, .ref (ρ 42)), (1, .int x1), (2, .int x2)] [.int s0, .ref (ρ 42)] u := by
  intro ls H locs hl hP hS
  have hx := C.1
  have hb := C.2.1
  unfold M_Model_term_b37 at hM
  refine lv_iconst (v := (2 : Int32)) hx hb d_Model_term_37 (by decide) ?_
  obtain ⟨q38, hq38, hM⟩ := gb_some hM
  refine g_backI (g_runV (As := [.int s0, .int (2 : Int32)]) C hP (c_Model_fails C.2.2.2.2.2.2.2.2.1 hq38) gi_Model_fails gm_Model_133 rfl rfl (by decide) (by decide) hl.1 rfl (Nat.le_of_ble_eq_true rfl) d_Model_term_38) hS (fun H locs hP hS => ?_)
  refine lv_if_eq (tgt := 46) hx hb d_Model_term_41 (by decide) (fun hc41 => ?_) (fun hc41 => ?_)
  · replace hM := gi_t hc41 hM
    refine lv_iload_n hx hb d_Model_term_46 rfl (lv_at hl 2 rfl) ?_
    refine lv_iconst (v := (3 : Int32)) hx hb d_Model_term_47 (by decide) ?_
    refine lv_icmp_eq (tgt := 56) hx hb d_Model_term_48 (by decide) (fun hc48 => ?_) (fun hc48 => ?_)
    · replace hM := gi_t hc48 hM
      exact t_Model_term_b56 C hM hR ls H locs (lv_sub hl [0, 1, 2] rfl) hP hS
    · replace hM := gi_f hc48 hM
      refine lv_iload_n hx hb d_Model_term_51 rfl (lv_at hl 2 rfl) ?_
      refine lv_iconst (v := (4 : Int32)) hx hb d_Model_term_52 (by decide) ?_
      refine lv_icmp_ne (tgt := 72) hx hb d_Model_term_53 (by decide) (fun hc53 => ?_) (fun hc53 => ?_)
      · replace hM := gi_f hc53 hM
        refine lv_iload_n hx hb d_Model_term_72 rfl (lv_at hl 2 rfl) ?_
        refine lv_iconst (v := (5 : Int32)) hx hb d_Model_term_73 (by decide) ?_
        refine lv_icmp_ne (tgt := 84) hx hb d_Model_term_74 (by decide) (fun hc74 => ?_) (fun hc74 => ?_)
        · replace hM := gi_f hc74 hM
          refine lv_iload_n hx hb d_Model_term_84 rfl (lv_at hl 2 rfl) ?_
          refine lv_bipush (v := (6 : Int32)) hx hb d_Model_term_85 (by decide) ?_
          refine lv_icmp_ne (tgt := 96) hx hb d_Model_term_87 (by decide) (fun hc87 => ?_) (fun hc87 => ?_)
          · replace hM := gi_f hc87 hM
            refine lv_iconst (v := (0 : Int32)) hx hb d_Model_term_96 (by decide) ?_
            refine lv_istore_n (lv' := [(3, .int (0 : Int32)), (0, .ref (ρ 42)), (1, .int x1), (2, .int x2)]) hx hb d_Model_term_97 rfl hl (by decide) rfl (fun ls hl => ?_)
            refine lv_iconst (v := (0 : Int32)) hx hb d_Model_term_98 (by decide) ?_
            refine lv_istore (lv' := [(4, .int (0 : Int32)), (3, .int (0 : Int32)), (0, .ref (ρ 42)), (1, .int x1), (2, .int x2)]) hx hb d_Model_term_99 hl (by decide) rfl (fun ls hl => ?_)
            obtain ⟨y101, hL101, hM⟩ := gb_some hM
            refine t_Model_term_L101 C hL101 (fun y101_0 hy => ?_) ls H locs (lv_sub hl [2, 3, 4, 1, 0] rfl) hP hS
            · subst hy
              intro ls H locs hl hP hS
              refine lv_iload_n hx hb d_Model_term_185 rfl (lv_at hl 0 rfl) ?_
              obtain rfl := Option.some.inj hM
              exact hR _ ls H locs d_Model_term_186 hP hS
          · replace hM := gi_t hc87 hM
            refine lv_aload_n hx hb d_Model_term_90 rfl (lv_at hl 0 rfl) ?_
            refine lv_iload_n hx hb d_Model_term_91 rfl (lv_at hl 1 rfl) ?_
            obtain ⟨q92, hq92, hM⟩ := gb_some hM
            refine g_backI (g_runV (As := [.int x1]) C hP (c_Model_wayOf C.2.2.2.2.2.2.2.2.1 hq92) gi_Model_wayOf gm_Model_252 rfl rfl (by decide) (by decide) hl.1 rfl (Nat.le_of_ble_eq_true rfl) d_Model_term_92) hS (fun H locs hP hS => ?_)
            obtain rfl := Option.some.inj hM
            exact hR _ ls H locs d_Model_term_95 hP hS
        · replace hM := gi_t hc74 hM
          refine lv_aload_n hx hb d_Model_term_77 rfl (lv_at hl 0 rfl) ?_
          refine g_getR (b := 49) C hP gl_DeskModel_34 rfl rfl rfl d_Model_term_78 ?_
          refine lv_iload_n hx hb d_Model_term_81 rfl (lv_at hl 1 rfl) ?_
          obtain ⟨hi82, hM⟩ := gc_some hM
          refine g_iald C hP rfl hi82 d_Model_term_82 ?_
          obtain rfl := Option.some.inj hM
          exact hR _ ls H locs d_Model_term_83 hP hS
      · replace hM := gi_t hc53 hM
        exact t_Model_term_b56 C hM hR ls H locs (lv_sub hl [0, 1, 2] rfl) hP hS
  · replace hM := gi_f hc41 hM
    exact t_Model_term_b44 C hM hR ls H locs (lv_sub hl [] rfl) hP hS
noncomputable def M_Model_term_b32 (x1 : Int32) (x2 : Int32) (u : gSt) : Option ((Int32 × gSt)) :=
  M_Model_term_b37 x1 x2 (1 : Int32) u
set_option maxHeartbeats 4000000 in
set_option maxRecDepth 100000 in
theorem t_Model_term_b32 (C : gX "TermDeskModel" prog_13_method_47_code 6 (some .int) 2 48 R cells slots cy D ρ A p s m args meth c) {x1 : Int32} {x2 : Int32} {u : gSt} {z : (Int32 × gSt)} (hM : M_Model_term_b32 x1 x2 u = some z) (hR : gRtI p l e R s m args below meth c Q H0 cells slots cy D ρ A prog_13_method_47_code z.1 z.2) : gAt p l e R s m args below meth c Q H0 cells slots cy D ρ A 6 32 [(0, .ref (ρ 42)), (1, .int x1), (2, .int x2)] [.ref (ρ 42)] u := by
  intro ls H locs hl hP hS
  have hx := C.1
  have hb := C.2.1
  unfold M_Model_term_b32 at hM
  refine lv_iconst (v := (1 : Int32)) hx hb d_Model_term_32 (by decide) ?_
  refine lv_goto (tgt := 37) hx hb d_Model_term_33 (by decide) ?_
  exact t_Model_term_b37 C hM hR ls H locs (lv_sub hl [0, 1, 2] rfl) hP hS
noncomputable def M_Model_term_b14 (x1 : Int32) (x2 : Int32) (s0 : Int32) (u : gSt) : Option ((Int32 × gSt)) :=
  (M_Model_fails s0 (1 : Int32) u).bind fun q15 =>
  if q15.1 = (0 : Int32) then
    (if x2 < (0 : Int32) then
      (M_Model_term_b32 x1 x2 q15.2)
    else
      (if x2 ≤ (6 : Int32) then
        (M_Model_term_b37 x1 x2 (0 : Int32) q15.2)
      else
        (M_Model_term_b32 x1 x2 q15.2)))
  else
    (M_Model_term_b44 q15.2)
set_option maxHeartbeats 4000000 in
set_option maxRecDepth 100000 in
theorem t_Model_term_b14 (C : gX "TermDeskModel" prog_13_method_47_code 6 (some .int) 2 48 R cells slots cy D ρ A p s m args meth c) {x1 : Int32} {x2 : Int32} {s0 : Int32} {u : gSt} {z : (Int32 × gSt)} (hM : M_Model_term_b14 x1 x2 s0 u = some z) (hR : gRtI p l e R s m args below meth c Q H0 cells slots cy D ρ A prog_13_method_47_code z.1 z.2) : gAt p l e R s m args below meth c Q H0 cells slots cy D ρ A 6 14 [(0, .ref (ρ 42)), (1, .int x1), (2, .int x2)] [.int s0, .ref (ρ 42)] u := by
  intro ls H locs hl hP hS
  have hx := C.1
  have hb := C.2.1
  unfold M_Model_term_b14 at hM
  refine lv_iconst (v := (1 : Int32)) hx hb d_Model_term_14 (by decide) ?_
  obtain ⟨q15, hq15, hM⟩ := gb_some hM
  refine g_backI (g_runV (As := [.int s0, .int (1 : Int32)]) C hP (c_Model_fails C.2.2.2.2.2.2.2.2.1 hq15) gi_Model_fails gm_Model_133 rfl rfl (by decide) (by decide) hl.1 rfl (Nat.le_of_ble_eq_true rfl) d_Model_term_15) hS (fun H locs hP hS => ?_)
  refine lv_if_ne (tgt := 44) hx hb d_Model_term_18 (by decide) (fun hc18 => ?_) (fun hc18 => ?_)
  · replace hM := gi_f hc18 hM
    exact t_Model_term_b44 C hM hR ls H locs (lv_sub hl [] rfl) hP hS
  · replace hM := gi_t hc18 hM
    refine lv_aload_n hx hb d_Model_term_21 rfl (lv_at hl 0 rfl) ?_
    refine lv_iload_n hx hb d_Model_term_22 rfl (lv_at hl 2 rfl) ?_
    refine lv_if_lt (tgt := 32) hx hb d_Model_term_23 (by decide) (fun hc23 => ?_) (fun hc23 => ?_)
    · replace hM := gi_t hc23 hM
      exact t_Model_term_b32 C hM hR ls H locs (lv_sub hl [0, 1, 2] rfl) hP hS
    · replace hM := gi_f hc23 hM
      refine lv_iload_n hx hb d_Model_term_26 rfl (lv_at hl 2 rfl) ?_
      refine lv_bipush (v := (6 : Int32)) hx hb d_Model_term_27 (by decide) ?_
      refine lv_icmp_le (tgt := 36) hx hb d_Model_term_29 (by decide) (fun hc29 => ?_) (fun hc29 => ?_)
      · replace hM := gi_t hc29 hM
        refine lv_iconst (v := (0 : Int32)) hx hb d_Model_term_36 (by decide) ?_
        exact t_Model_term_b37 C hM hR ls H locs (lv_sub hl [0, 1, 2] rfl) hP hS
      · replace hM := gi_f hc29 hM
        exact t_Model_term_b32 C hM hR ls H locs (lv_sub hl [0, 1, 2] rfl) hP hS
noncomputable def M_Model_term (x1 : Int32) (x2 : Int32) (u : gSt) : Option ((Int32 × gSt)) :=
  (M_Model_isTerm x1 u).bind fun q3 =>
  if q3.1 = (0 : Int32) then
    (M_Model_term_b14 x1 x2 (1 : Int32) q3.2)
  else
    (M_Model_term_b14 x1 x2 (0 : Int32) q3.2)
set_option maxHeartbeats 4000000 in
set_option maxRecDepth 100000 in
theorem t_Model_term (C : gX "TermDeskModel" prog_13_method_47_code 6 (some .int) 2 48 R cells slots cy D ρ A p s m args meth c) {x1 : Int32} {x2 : Int32} {u : gSt} {z : (Int32 × gSt)} (hM : M_Model_term x1 x2 u = some z) (hR : gRtI p l e R s m args below meth c Q H0 cells slots cy D ρ A prog_13_method_47_code z.1 z.2) : gAt p l e R s m args below meth c Q H0 cells slots cy D ρ A 6 0 [(0, .ref (ρ 42)), (1, .int x1), (2, .int x2)] [] u := by
  intro ls H locs hl hP hS
  have hx := C.1
  have hb := C.2.1
  unfold M_Model_term at hM
  refine lv_aload_n hx hb d_Model_term_0 rfl (lv_at hl 0 rfl) ?_
  refine lv_aload_n hx hb d_Model_term_1 rfl (lv_at hl 0 rfl) ?_
  refine lv_iload_n hx hb d_Model_term_2 rfl (lv_at hl 1 rfl) ?_
  obtain ⟨q3, hq3, hM⟩ := gb_some hM
  refine g_backI (g_runV (As := [.int x1]) C hP (c_Model_isTerm C.2.2.2.2.2.2.2.2.1 hq3) gi_Model_isTerm gm_Model_249 rfl rfl (by decide) (by decide) hl.1 rfl (Nat.le_of_ble_eq_true rfl) d_Model_term_3) hS (fun H locs hP hS => ?_)
  refine lv_if_ne (tgt := 13) hx hb d_Model_term_6 (by decide) (fun hc6 => ?_) (fun hc6 => ?_)
  · replace hM := gi_f hc6 hM
    refine lv_iconst (v := (0 : Int32)) hx hb d_Model_term_13 (by decide) ?_
    exact t_Model_term_b14 C hM hR ls H locs (lv_sub hl [0, 1, 2] rfl) hP hS
  · replace hM := gi_t hc6 hM
    refine lv_iconst (v := (1 : Int32)) hx hb d_Model_term_9 (by decide) ?_
    refine lv_goto (tgt := 14) hx hb d_Model_term_10 (by decide) ?_
    exact t_Model_term_b14 C hM hR ls H locs (lv_sub hl [0, 1, 2] rfl) hP hS
theorem c_Model_term {l : Launch} {cy : Nat → ClassId} {D : va_G} {ρ : Nat → Nat} {A : Nat → Prop} (hD : gD ρ A) {x1 : Int32} {x2 : Int32} {u : gSt} {z : (Int32 × gSt)} (hM : M_Model_term x1 x2 u = some z) : gCtI l y_Model_term prog_13_method_47_code 6 (some .int) 2 48 cy D ρ A [.ref (ρ 42), .int x1, .int x2] u z.1 z.2 :=
  g_met (by decide) hD (Nat.le_of_ble_eq_true rfl) (fun p e s m below meth c ls X hl hP => t_Model_term X hM (fun pc ls H locs hd hP hS => g_iret X hP hS hd) ls _ [] hl hP va_S.rf)
end
section
variable {p : Program} {l : Launch} {e : Env} {R : Room} {s : State} {m : MethodId} {args : Array Value} {below : List Frame} {meth : Method} {c : Code} {Q : State → Prop} {H0 : Heap} {cells slots : Nat} {cy : Nat → ClassId} {D : va_G} {ρ : Nat → Nat} {A : Nat → Prop}
def y_Model_letter : MethodName := ⟨"TermDeskModel", "letter", "(IZI)I"⟩
theorem gi_Model_letter : gMi y_Model_letter prog_13_method_48_code 5 (some .int) 3 8 := ⟨(gWs_at 1285 (by decide +kernel) (by decide +kernel)), (gWs_at 1283 (by decide +kernel) (by decide +kernel)), (gWs_at 1284 (by decide +kernel) (by decide +kernel)), (gWs_at 125 (by decide +kernel) (by decide +kernel)), ⟨by decide +kernel, by decide +kernel, by decide +kernel⟩, _, _, rfl⟩
theorem gm_Law_89 : gMk "TermDeskLaw" 89 y_Model_letter := Or.inl (gWs_at 1282 (by decide +kernel) (by decide +kernel))
theorem d_Model_letter_0 : decode prog_13_method_48_code 0 = .ok (.aload_n 0, 1) := by decide +kernel
theorem d_Model_letter_1 : decode prog_13_method_48_code 1 = .ok (.iload_n 1, 1) := by decide +kernel
theorem d_Model_letter_2 : decode prog_13_method_48_code 2 = .ok (.ifCond .lt 22, 3) := by decide +kernel
theorem d_Model_letter_5 : decode prog_13_method_48_code 5 = .ok (.iload_n 1, 1) := by decide +kernel
theorem d_Model_letter_6 : decode prog_13_method_48_code 6 = .ok (.iload_n 2, 1) := by decide +kernel
theorem d_Model_letter_7 : decode prog_13_method_48_code 7 = .ok (.ifCond .eq 10, 3) := by decide +kernel
theorem d_Model_letter_10 : decode prog_13_method_48_code 10 = .ok (.aload_n 0, 1) := by decide +kernel
theorem d_Model_letter_11 : decode prog_13_method_48_code 11 = .ok (.getfield 164, 3) := by decide +kernel
theorem d_Model_letter_14 : decode prog_13_method_48_code 14 = .ok (.goto 7, 3) := by decide +kernel
theorem d_Model_letter_17 : decode prog_13_method_48_code 17 = .ok (.aload_n 0, 1) := by decide +kernel
theorem d_Model_letter_18 : decode prog_13_method_48_code 18 = .ok (.getfield 184, 3) := by decide +kernel
theorem d_Model_letter_21 : decode prog_13_method_48_code 21 = .ok (.if_icmp .lt 7, 3) := by decide +kernel
theorem d_Model_letter_24 : decode prog_13_method_48_code 24 = .ok (.iconst 1, 1) := by decide +kernel
theorem d_Model_letter_25 : decode prog_13_method_48_code 25 = .ok (.goto 4, 3) := by decide +kernel
theorem d_Model_letter_28 : decode prog_13_method_48_code 28 = .ok (.iconst 0, 1) := by decide +kernel
theorem d_Model_letter_29 : decode prog_13_method_48_code 29 = .ok (.iconst 1, 1) := by decide +kernel
theorem d_Model_letter_30 : decode prog_13_method_48_code 30 = .ok (.invokevirtual 133, 3) := by decide +kernel
theorem d_Model_letter_33 : decode prog_13_method_48_code 33 = .ok (.ifCond .eq 5, 3) := by decide +kernel
theorem d_Model_letter_36 : decode prog_13_method_48_code 36 = .ok (.iconst 0, 1) := by decide +kernel
theorem d_Model_letter_37 : decode prog_13_method_48_code 37 = .ok (.ireturn, 1) := by decide +kernel
theorem d_Model_letter_38 : decode prog_13_method_48_code 38 = .ok (.iload_n 2, 1) := by decide +kernel
theorem d_Model_letter_39 : decode prog_13_method_48_code 39 = .ok (.ifCond .eq 33, 3) := by decide +kernel
theorem d_Model_letter_42 : decode prog_13_method_48_code 42 = .ok (.iload_n 3, 1) := by decide +kernel
theorem d_Model_letter_43 : decode prog_13_method_48_code 43 = .ok (.ifCond .lt 27, 3) := by decide +kernel
theorem d_Model_letter_46 : decode prog_13_method_48_code 46 = .ok (.iload_n 3, 1) := by decide +kernel
theorem d_Model_letter_47 : decode prog_13_method_48_code 47 = .ok (.aload_n 0, 1) := by decide +kernel
theorem d_Model_letter_48 : decode prog_13_method_48_code 48 = .ok (.getfield 31, 3) := by decide +kernel
theorem d_Model_letter_51 : decode prog_13_method_48_code 51 = .ok (.iload_n 1, 1) := by decide +kernel
theorem d_Model_letter_52 : decode prog_13_method_48_code 52 = .ok (.iaload, 1) := by decide +kernel
theorem d_Model_letter_53 : decode prog_13_method_48_code 53 = .ok (.if_icmp .ge 17, 3) := by decide +kernel
theorem d_Model_letter_56 : decode prog_13_method_48_code 56 = .ok (.aload_n 0, 1) := by decide +kernel
theorem d_Model_letter_57 : decode prog_13_method_48_code 57 = .ok (.getfield 28, 3) := by decide +kernel
theorem d_Model_letter_60 : decode prog_13_method_48_code 60 = .ok (.bipush 12, 2) := by decide +kernel
theorem d_Model_letter_62 : decode prog_13_method_48_code 62 = .ok (.iload_n 1, 1) := by decide +kernel
theorem d_Model_letter_63 : decode prog_13_method_48_code 63 = .ok (.imul, 1) := by decide +kernel
theorem d_Model_letter_64 : decode prog_13_method_48_code 64 = .ok (.iload_n 3, 1) := by decide +kernel
theorem d_Model_letter_65 : decode prog_13_method_48_code 65 = .ok (.iadd, 1) := by decide +kernel
theorem d_Model_letter_66 : decode prog_13_method_48_code 66 = .ok (.baload, 1) := by decide +kernel
theorem d_Model_letter_67 : decode prog_13_method_48_code 67 = .ok (.goto 4, 3) := by decide +kernel
theorem d_Model_letter_70 : decode prog_13_method_48_code 70 = .ok (.iconst (-1), 1) := by decide +kernel
theorem d_Model_letter_71 : decode prog_13_method_48_code 71 = .ok (.ireturn, 1) := by decide +kernel
theorem d_Model_letter_72 : decode prog_13_method_48_code 72 = .ok (.iconst 0, 1) := by decide +kernel
theorem d_Model_letter_73 : decode prog_13_method_48_code 73 = .ok (.istore 4, 2) := by decide +kernel
theorem d_Model_letter_75 : decode prog_13_method_48_code 75 = .ok (.aload_n 0, 1) := by decide +kernel
theorem d_Model_letter_76 : decode prog_13_method_48_code 76 = .ok (.getfield 25, 3) := by decide +kernel
theorem d_Model_letter_79 : decode prog_13_method_48_code 79 = .ok (.iload 4, 2) := by decide +kernel
theorem d_Model_letter_81 : decode prog_13_method_48_code 81 = .ok (.iaload, 1) := by decide +kernel
theorem d_Model_letter_82 : decode prog_13_method_48_code 82 = .ok (.iload_n 1, 1) := by decide +kernel
theorem d_Model_letter_83 : decode prog_13_method_48_code 83 = .ok (.if_icmp .eq 9, 3) := by decide +kernel
theorem d_Model_letter_86 : decode prog_13_method_48_code 86 = .ok (.iinc 4 1, 3) := by decide +kernel
theorem d_Model_letter_89 : decode prog_13_method_48_code 89 = .ok (.goto (-14), 3) := by decide +kernel
theorem d_Model_letter_92 : decode prog_13_method_48_code 92 = .ok (.iload_n 3, 1) := by decide +kernel
theorem d_Model_letter_93 : decode prog_13_method_48_code 93 = .ok (.ifCond .lt 29, 3) := by decide +kernel
theorem d_Model_letter_96 : decode prog_13_method_48_code 96 = .ok (.iload_n 3, 1) := by decide +kernel
theorem d_Model_letter_97 : decode prog_13_method_48_code 97 = .ok (.aload_n 0, 1) := by decide +kernel
theorem d_Model_letter_98 : decode prog_13_method_48_code 98 = .ok (.getfield 21, 3) := by decide +kernel
theorem d_Model_letter_101 : decode prog_13_method_48_code 101 = .ok (.iload 4, 2) := by decide +kernel
theorem d_Model_letter_103 : decode prog_13_method_48_code 103 = .ok (.iaload, 1) := by decide +kernel
theorem d_Model_letter_104 : decode prog_13_method_48_code 104 = .ok (.if_icmp .ge 18, 3) := by decide +kernel
theorem d_Model_letter_107 : decode prog_13_method_48_code 107 = .ok (.aload_n 0, 1) := by decide +kernel
theorem d_Model_letter_108 : decode prog_13_method_48_code 108 = .ok (.getfield 18, 3) := by decide +kernel
theorem d_Model_letter_111 : decode prog_13_method_48_code 111 = .ok (.bipush 12, 2) := by decide +kernel
theorem d_Model_letter_113 : decode prog_13_method_48_code 113 = .ok (.iload 4, 2) := by decide +kernel
theorem d_Model_letter_115 : decode prog_13_method_48_code 115 = .ok (.imul, 1) := by decide +kernel
theorem d_Model_letter_116 : decode prog_13_method_48_code 116 = .ok (.iload_n 3, 1) := by decide +kernel
theorem d_Model_letter_117 : decode prog_13_method_48_code 117 = .ok (.iadd, 1) := by decide +kernel
theorem d_Model_letter_118 : decode prog_13_method_48_code 118 = .ok (.baload, 1) := by decide +kernel
theorem d_Model_letter_119 : decode prog_13_method_48_code 119 = .ok (.goto 4, 3) := by decide +kernel
theorem d_Model_letter_122 : decode prog_13_method_48_code 122 = .ok (.iconst (-1), 1) := by decide +kernel
theorem d_Model_letter_123 : decode prog_13_method_48_code 123 = .ok (.ireturn, 1) := by decide +kernel
noncomputable def M_Model_letter_b75 (x1 : Int32) (x3 : Int32) (x4 : Int32) (u : gSt) : Option ((Int32 × Int32 × Int32 × gSt) ⊕ ((Int32 × Int32 × gSt))) :=
  gc (gIn x4 (gLen 46)) <| if (u.2.2.1 46 (gIx x4)) = x1 then
    (some (.inr (x3, x4, u)))
  else
    (some (.inl (x1, x3, x4 + (1 : Int32), u)))
set_option maxHeartbeats 4000000 in
set_option maxRecDepth 100000 in
theorem t_Model_letter_b75 (C : gX "TermDeskModel" prog_13_method_48_code 5 (some .int) 1 22 R cells slots cy D ρ A p s m args meth c) {x1 : Int32} {x3 : Int32} {x4 : Int32} {u : gSt} {z : (Int32 × Int32 × Int32 × gSt) ⊕ ((Int32 × Int32 × gSt))} (hM : M_Model_letter_b75 x1 x3 x4 u = some z) (hN : ∀ x1' x3' x4' u', z = .inl (x1', x3', x4', u') → gAt p l e R s m args below meth c Q H0 cells slots cy D ρ A 5 75 [(0, .ref (ρ 42)), (1, .int (x1')), (3, .int (x3')), (4, .int (x4'))] [] (u')) (hE0 : ∀ x3' x4' u', z = .inr (x3', x4', u') → gAt p l e R s m args below meth c Q H0 cells slots cy D ρ A 5 92 [(0, .ref (ρ 42)), (3, .int (x3')), (4, .int (x4'))] [] (u')) : gAt p l e R s m args below meth c Q H0 cells slots cy D ρ A 5 75 [(0, .ref (ρ 42)), (1, .int x1), (3, .int x3), (4, .int x4)] [] u := by
  intro ls H locs hl hP hS
  have hx := C.1
  have hb := C.2.1
  unfold M_Model_letter_b75 at hM
  refine lv_aload_n hx hb d_Model_letter_75 rfl (lv_at hl 0 rfl) ?_
  refine g_getR (b := 46) C hP gl_DeskModel_25 rfl rfl rfl d_Model_letter_76 ?_
  refine lv_iload hx hb d_Model_letter_79 (lv_at hl 3 rfl) ?_
  obtain ⟨hi81, hM⟩ := gc_some hM
  refine g_iald C hP rfl hi81 d_Model_letter_81 ?_
  refine lv_iload_n hx hb d_Model_letter_82 rfl (lv_at hl 1 rfl) ?_
  refine lv_icmp_eq (tgt := 92) hx hb d_Model_letter_83 (by decide) (fun hc83 => ?_) (fun hc83 => ?_)
  · replace hM := gi_t hc83 hM
    exact hE0 _ _ _ (Option.some.inj hM).symm ls H locs (lv_sub hl [0, 2, 3] rfl) hP hS
  · replace hM := gi_f hc83 hM
    refine lv_iinc (k := 3) (v := x4 + (1 : Int32)) (lv' := [(4, .int (x4 + (1 : Int32))), (0, .ref (ρ 42)), (1, .int x1), (3, .int x3)]) hx hb d_Model_letter_86 hl rfl (congrArg (fun z => x4 + z) (by decide)) (by decide) rfl (fun ls hl => ?_)
    refine lv_goto (tgt := 75) hx hb d_Model_letter_89 (by decide) ?_
    exact hN _ _ _ _ (Option.some.inj hM).symm ls H locs (lv_sub hl [1, 2, 3, 0] rfl) hP hS
noncomputable def M_Model_letter_L75 : (Int32 × Int32 × Int32 × gSt) → Option ((Int32 × Int32 × Int32 × gSt) ⊕ ((Int32 × Int32 × gSt))) := fun x => M_Model_letter_b75 x.1 x.2.1 x.2.2.1 x.2.2.2
theorem t_Model_letter_L75 (C : gX "TermDeskModel" prog_13_method_48_code 5 (some .int) 1 22 R cells slots cy D ρ A p s m args meth c) {x1 : Int32} {x3 : Int32} {x4 : Int32} {u : gSt} {yy : (Int32 × Int32 × gSt)} (hL : gLp M_Model_letter_L75 (x1, x3, x4, u) = some yy) (hE0 : (∀ y', yy = y' → gAt p l e R s m args below meth c Q H0 cells slots cy D ρ A 5 92 [(0, .ref (ρ 42)), (3, .int (y'.1)), (4, .int (y'.2.1))] [] (y'.2.2))) : gAt p l e R s m args below meth c Q H0 cells slots cy D ρ A 5 75 [(0, .ref (ρ 42)), (1, .int x1), (3, .int x3), (4, .int x4)] [] u :=
  g_loop (f := M_Model_letter_L75) (P := fun x => gAt p l e R s m args below meth c Q H0 cells slots cy D ρ A 5 75 [(0, .ref (ρ 42)), (1, .int x.1), (3, .int x.2.1), (4, .int x.2.2.1)] [] x.2.2.2) (E := fun yy => (∀ y', yy = y' → gAt p l e R s m args below meth c Q H0 cells slots cy D ρ A 5 92 [(0, .ref (ρ 42)), (3, .int (y'.1)), (4, .int (y'.2.1))] [] (y'.2.2))) (fun x z hf hN hE => t_Model_letter_b75 C hf (fun x1' x3' x4' u' h => hN (x1', x3', x4', u') h) (fun x3' x4' u' h => (hE _ h) (x3', x4', u') rfl)) hL hE0
noncomputable def M_Model_letter_b123 (s0 : Int32) (u : gSt) : Option ((Int32 × gSt)) :=
  some (s0, u)
set_option maxHeartbeats 4000000 in
set_option maxRecDepth 100000 in
theorem t_Model_letter_b123 (C : gX "TermDeskModel" prog_13_method_48_code 5 (some .int) 1 22 R cells slots cy D ρ A p s m args meth c) {s0 : Int32} {u : gSt} {z : (Int32 × gSt)} (hM : M_Model_letter_b123 s0 u = some z) (hR : gRtI p l e R s m args below meth c Q H0 cells slots cy D ρ A prog_13_method_48_code z.1 z.2) : gAt p l e R s m args below meth c Q H0 cells slots cy D ρ A 5 123 [] [.int s0] u := by
  intro ls H locs hl hP hS
  have hx := C.1
  have hb := C.2.1
  unfold M_Model_letter_b123 at hM
  obtain rfl := Option.some.inj hM
  exact hR _ ls H locs d_Model_letter_123 hP hS
noncomputable def M_Model_letter_b122 (u : gSt) : Option ((Int32 × gSt)) :=
  M_Model_letter_b123 (-1 : Int32) u
set_option maxHeartbeats 4000000 in
set_option maxRecDepth 100000 in
theorem t_Model_letter_b122 (C : gX "TermDeskModel" prog_13_method_48_code 5 (some .int) 1 22 R cells slots cy D ρ A p s m args meth c) {u : gSt} {z : (Int32 × gSt)} (hM : M_Model_letter_b122 u = some z) (hR : gRtI p l e R s m args below meth c Q H0 cells slots cy D ρ A prog_13_method_48_code z.1 z.2) : gAt p l e R s m args below meth c Q H0 cells slots cy D ρ A 5 122 [] [] u := by
  intro ls H locs hl hP hS
  have hx := C.1
  have hb := C.2.1
  unfold M_Model_letter_b122 at hM
  refine lv_iconst (v := (-1 : Int32)) hx hb d_Model_letter_122 (by decide) ?_
  exact t_Model_letter_b123 C hM hR ls H locs (lv_sub hl [] rfl) hP hS
noncomputable def M_Model_letter_b71 (s0 : Int32) (u : gSt) : Option ((Int32 × gSt)) :=
  some (s0, u)
set_option maxHeartbeats 4000000 in
set_option maxRecDepth 100000 in
theorem t_Model_letter_b71 (C : gX "TermDeskModel" prog_13_method_48_code 5 (some .int) 1 22 R cells slots cy D ρ A p s m args meth c) {s0 : Int32} {u : gSt} {z : (Int32 × gSt)} (hM : M_Model_letter_b71 s0 u = some z) (hR : gRtI p l e R s m args below meth c Q H0 cells slots cy D ρ A prog_13_method_48_code z.1 z.2) : gAt p l e R s m args below meth c Q H0 cells slots cy D ρ A 5 71 [] [.int s0] u := by
  intro ls H locs hl hP hS
  have hx := C.1
  have hb := C.2.1
  unfold M_Model_letter_b71 at hM
  obtain rfl := Option.some.inj hM
  exact hR _ ls H locs d_Model_letter_71 hP hS
noncomputable def M_Model_letter_b70 (u : gSt) : Option ((Int32 × gSt)) :=
  M_Model_letter_b71 (-1 : Int32) u
set_option maxHeartbeats 4000000 in
set_option maxRecDepth 100000 in
theorem t_Model_letter_b70 (C : gX "TermDeskModel" prog_13_method_48_code 5 (some .int) 1 22 R cells slots cy D ρ A p s m args meth c) {u : gSt} {z : (Int32 × gSt)} (hM : M_Model_letter_b70 u = some z) (hR : gRtI p l e R s m args below meth c Q H0 cells slots cy D ρ A prog_13_method_48_code z.1 z.2) : gAt p l e R s m args below meth c Q H0 cells slots cy D ρ A 5 70 [] [] u := by
  intro ls H locs hl hP hS
  have hx := C.1
  have hb := C.2.1
  unfold M_Model_letter_b70 at hM
  refine lv_iconst (v := (-1 : Int32)) hx hb d_Model_letter_70 (by decide) ?_
  exact t_Model_letter_b71 C hM hR ls H locs (lv_sub hl [] rfl) hP hS
noncomputable def M_Model_letter_b29 (x1 : Int32) (x2 : Int32) (x3 : Int32) (s0 : Int32) (u : gSt) : Option ((Int32 × gSt)) :=
  (M_Model_fails s0 (1 : Int32) u).bind fun q30 =>
  if q30.1 = (0 : Int32) then
    (if x2 = (0 : Int32) then
      ((gLp M_Model_letter_L75 (x1, x3, (0 : Int32), q30.2)).bind fun y75 =>
      if y75.1 < (0 : Int32) then
        (M_Model_letter_b122 y75.2.2)
      else
        (gc (gIn y75.2.1 (gLen 45)) <| if (y75.2.2.2.2.1 45 (gIx y75.2.1)) ≤ y75.1 then
          (M_Model_letter_b122 y75.2.2)
        else
          (gc (gIn (((12 : Int32) * y75.2.1) + y75.1) (gLen 44)) <| M_Model_letter_b123 (y75.2.2.2.2.1 44 (gIx (((12 : Int32) * y75.2.1) + y75.1))) y75.2.2)))
    else
      (if x3 < (0 : Int32) then
        (M_Model_letter_b70 q30.2)
      else
        (gc (gIn x1 (gLen 48)) <| if (q30.2.2.2.1 48 (gIx x1)) ≤ x3 then
          (M_Model_letter_b70 q30.2)
        else
          (gc (gIn (((12 : Int32) * x1) + x3) (gLen 47)) <| M_Model_letter_b71 (q30.2.2.2.1 47 (gIx (((12 : Int32) * x1) + x3))) q30.2))))
  else
    (some ((0 : Int32), q30.2))
set_option maxHeartbeats 4000000 in
set_option maxRecDepth 100000 in
theorem t_Model_letter_b29 (C : gX "TermDeskModel" prog_13_method_48_code 5 (some .int) 1 22 R cells slots cy D ρ A p s m args meth c) {x1 : Int32} {x2 : Int32} {x3 : Int32} {s0 : Int32} {u : gSt} {z : (Int32 × gSt)} (hM : M_Model_letter_b29 x1 x2 x3 s0 u = some z) (hR : gRtI p l e R s m args below meth c Q H0 cells slots cy D ρ A prog_13_method_48_code z.1 z.2) : gAt p l e R s m args below meth c Q H0 cells slots cy D ρ A 5 29 [(0, .ref (ρ 42)), (1, .int x1), (2, .int x2), (3, .int x3)] [.int s0, .ref (ρ 42)] u := by
  intro ls H locs hl hP hS
  have hx := C.1
  have hb := C.2.1
  unfold M_Model_letter_b29 at hM
  refine lv_iconst (v := (1 : Int32)) hx hb d_Model_letter_29 (by decide) ?_
  obtain ⟨q30, hq30, hM⟩ := gb_some hM
  refine g_backI (g_runV (As := [.int s0, .int (1 : Int32)]) C hP (c_Model_fails C.2.2.2.2.2.2.2.2.1 hq30) gi_Model_fails gm_Model_133 rfl rfl (by decide) (by decide) hl.1 rfl (Nat.le_of_ble_eq_true rfl) d_Model_letter_30) hS (fun H locs hP hS => ?_)
  refine lv_if_eq (tgt := 38) hx hb d_Model_letter_33 (by decide) (fun hc33 => ?_) (fun hc33 => ?_)
  · replace hM := gi_t hc33 hM
    refine lv_iload_n hx hb d_Model_letter_38 rfl (lv_at hl 2 rfl) ?_
    refine lv_if_eq (tgt := 72) hx hb d_Model_letter_39 (by decide) (fun hc39 => ?_) (fun hc39 => ?_)
    · replace hM := gi_t hc39 hM
      refine lv_iconst (v := (0 : Int32)) hx hb d_Model_letter_72 (by decide) ?_
      refine lv_istore (lv' := [(4, .int (0 : Int32)), (0, .ref (ρ 42)), (1, .int x1), (2, .int x2), (3, .int x3)]) hx hb d_Model_letter_73 hl (by decide) rfl (fun ls hl => ?_)
      obtain ⟨y75, hL75, hM⟩ := gb_some hM
      refine t_Model_letter_L75 C hL75 (fun y75_0 hy => ?_) ls H locs (lv_sub hl [1, 2, 4, 0] rfl) hP hS
      · subst hy
        intro ls H locs hl hP hS
        refine lv_iload_n hx hb d_Model_letter_92 rfl (lv_at hl 1 rfl) ?_
        refine lv_if_lt (tgt := 122) hx hb d_Model_letter_93 (by decide) (fun hc93 => ?_) (fun hc93 => ?_)
        · replace hM := gi_t hc93 hM
          exact t_Model_letter_b122 C hM hR ls H locs (lv_sub hl [] rfl) hP hS
        · replace hM := gi_f hc93 hM
          refine lv_iload_n hx hb d_Model_letter_96 rfl (lv_at hl 1 rfl) ?_
          refine lv_aload_n hx hb d_Model_letter_97 rfl (lv_at hl 0 rfl) ?_
          refine g_getR (b := 45) C hP gl_DeskModel_21 rfl rfl rfl d_Model_letter_98 ?_
          refine lv_iload hx hb d_Model_letter_101 (lv_at hl 2 rfl) ?_
          obtain ⟨hi103, hM⟩ := gc_some hM
          refine g_iald C hP rfl hi103 d_Model_letter_103 ?_
          refine lv_icmp_ge (tgt := 122) hx hb d_Model_letter_104 (by decide) (fun hc104 => ?_) (fun hc104 => ?_)
          · replace hM := gi_t hc104 hM
            exact t_Model_letter_b122 C hM hR ls H locs (lv_sub hl [] rfl) hP hS
          · replace hM := gi_f hc104 hM
            refine lv_aload_n hx hb d_Model_letter_107 rfl (lv_at hl 0 rfl) ?_
            refine g_getR (b := 44) C hP gl_DeskModel_18 rfl rfl rfl d_Model_letter_108 ?_
            refine lv_bipush (v := (12 : Int32)) hx hb d_Model_letter_111 (by decide) ?_
            refine lv_iload hx hb d_Model_letter_113 (lv_at hl 2 rfl) ?_
            refine lv_imul hx hb d_Model_letter_115 ?_
            refine lv_iload_n hx hb d_Model_letter_116 rfl (lv_at hl 1 rfl) ?_
            refine lv_iadd hx hb d_Model_letter_117 ?_
            obtain ⟨hi118, hM⟩ := gc_some hM
            refine g_bald C hP rfl hi118 d_Model_letter_118 ?_
            refine lv_goto (tgt := 123) hx hb d_Model_letter_119 (by decide) ?_
            exact t_Model_letter_b123 C hM hR ls H locs (lv_sub hl [] rfl) hP hS
    · replace hM := gi_f hc39 hM
      refine lv_iload_n hx hb d_Model_letter_42 rfl (lv_at hl 3 rfl) ?_
      refine lv_if_lt (tgt := 70) hx hb d_Model_letter_43 (by decide) (fun hc43 => ?_) (fun hc43 => ?_)
      · replace hM := gi_t hc43 hM
        exact t_Model_letter_b70 C hM hR ls H locs (lv_sub hl [] rfl) hP hS
      · replace hM := gi_f hc43 hM
        refine lv_iload_n hx hb d_Model_letter_46 rfl (lv_at hl 3 rfl) ?_
        refine lv_aload_n hx hb d_Model_letter_47 rfl (lv_at hl 0 rfl) ?_
        refine g_getR (b := 48) C hP gl_DeskModel_31 rfl rfl rfl d_Model_letter_48 ?_
        refine lv_iload_n hx hb d_Model_letter_51 rfl (lv_at hl 1 rfl) ?_
        obtain ⟨hi52, hM⟩ := gc_some hM
        refine g_iald C hP rfl hi52 d_Model_letter_52 ?_
        refine lv_icmp_ge (tgt := 70) hx hb d_Model_letter_53 (by decide) (fun hc53 => ?_) (fun hc53 => ?_)
        · replace hM := gi_t hc53 hM
          exact t_Model_letter_b70 C hM hR ls H locs (lv_sub hl [] rfl) hP hS
        · replace hM := gi_f hc53 hM
          refine lv_aload_n hx hb d_Model_letter_56 rfl (lv_at hl 0 rfl) ?_
          refine g_getR (b := 47) C hP gl_DeskModel_28 rfl rfl rfl d_Model_letter_57 ?_
          refine lv_bipush (v := (12 : Int32)) hx hb d_Model_letter_60 (by decide) ?_
          refine lv_iload_n hx hb d_Model_letter_62 rfl (lv_at hl 1 rfl) ?_
          refine lv_imul hx hb d_Model_letter_63 ?_
          refine lv_iload_n hx hb d_Model_letter_64 rfl (lv_at hl 3 rfl) ?_
          refine lv_iadd hx hb d_Model_letter_65 ?_
          obtain ⟨hi66, hM⟩ := gc_some hM
          refine g_bald C hP rfl hi66 d_Model_letter_66 ?_
          refine lv_goto (tgt := 71) hx hb d_Model_letter_67 (by decide) ?_
          exact t_Model_letter_b71 C hM hR ls H locs (lv_sub hl [] rfl) hP hS
  · replace hM := gi_f hc33 hM
    refine lv_iconst (v := (0 : Int32)) hx hb d_Model_letter_36 (by decide) ?_
    obtain rfl := Option.some.inj hM
    exact hR _ ls H locs d_Model_letter_37 hP hS
noncomputable def M_Model_letter_b24 (x1 : Int32) (x2 : Int32) (x3 : Int32) (u : gSt) : Option ((Int32 × gSt)) :=
  M_Model_letter_b29 x1 x2 x3 (1 : Int32) u
set_option maxHeartbeats 4000000 in
set_option maxRecDepth 100000 in
theorem t_Model_letter_b24 (C : gX "TermDeskModel" prog_13_method_48_code 5 (some .int) 1 22 R cells slots cy D ρ A p s m args meth c) {x1 : Int32} {x2 : Int32} {x3 : Int32} {u : gSt} {z : (Int32 × gSt)} (hM : M_Model_letter_b24 x1 x2 x3 u = some z) (hR : gRtI p l e R s m args below meth c Q H0 cells slots cy D ρ A prog_13_method_48_code z.1 z.2) : gAt p l e R s m args below meth c Q H0 cells slots cy D ρ A 5 24 [(0, .ref (ρ 42)), (1, .int x1), (2, .int x2), (3, .int x3)] [.ref (ρ 42)] u := by
  intro ls H locs hl hP hS
  have hx := C.1
  have hb := C.2.1
  unfold M_Model_letter_b24 at hM
  refine lv_iconst (v := (1 : Int32)) hx hb d_Model_letter_24 (by decide) ?_
  refine lv_goto (tgt := 29) hx hb d_Model_letter_25 (by decide) ?_
  exact t_Model_letter_b29 C hM hR ls H locs (lv_sub hl [0, 1, 2, 3] rfl) hP hS
noncomputable def M_Model_letter_b21 (x1 : Int32) (x2 : Int32) (x3 : Int32) (s0 : Int32) (s1 : Int32) (u : gSt) : Option ((Int32 × gSt)) :=
  if s1 < s0 then
    (M_Model_letter_b29 x1 x2 x3 (0 : Int32) u)
  else
    (M_Model_letter_b24 x1 x2 x3 u)
set_option maxHeartbeats 4000000 in
set_option maxRecDepth 100000 in
theorem t_Model_letter_b21 (C : gX "TermDeskModel" prog_13_method_48_code 5 (some .int) 1 22 R cells slots cy D ρ A p s m args meth c) {x1 : Int32} {x2 : Int32} {x3 : Int32} {s0 : Int32} {s1 : Int32} {u : gSt} {z : (Int32 × gSt)} (hM : M_Model_letter_b21 x1 x2 x3 s0 s1 u = some z) (hR : gRtI p l e R s m args below meth c Q H0 cells slots cy D ρ A prog_13_method_48_code z.1 z.2) : gAt p l e R s m args below meth c Q H0 cells slots cy D ρ A 5 21 [(0, .ref (ρ 42)), (1, .int x1), (2, .int x2), (3, .int x3)] [.int s0, .int s1, .ref (ρ 42)] u := by
  intro ls H locs hl hP hS
  have hx := C.1
  have hb := C.2.1
  unfold M_Model_letter_b21 at hM
  refine lv_icmp_lt (tgt := 28) hx hb d_Model_letter_21 (by decide) (fun hc21 => ?_) (fun hc21 => ?_)
  · replace hM := gi_t hc21 hM
    refine lv_iconst (v := (0 : Int32)) hx hb d_Model_letter_28 (by decide) ?_
    exact t_Model_letter_b29 C hM hR ls H locs (lv_sub hl [0, 1, 2, 3] rfl) hP hS
  · replace hM := gi_f hc21 hM
    exact t_Model_letter_b24 C hM hR ls H locs (lv_sub hl [0, 1, 2, 3] rfl) hP hS
noncomputable def M_Model_letter (x1 : Int32) (x2 : Int32) (x3 : Int32) (u : gSt) : Option ((Int32 × gSt)) :=
  if x1 < (0 : Int32) then
    (M_Model_letter_b24 x1 x2 x3 u)
  else
    (if x2 = (0 : Int32) then
      (M_Model_letter_b21 x1 x2 x3 (u.1 42 11) x1 u)
    else
      (M_Model_letter_b21 x1 x2 x3 (u.1 42 10) x1 u))
set_option maxHeartbeats 4000000 in
set_option maxRecDepth 100000 in
theorem t_Model_letter (C : gX "TermDeskModel" prog_13_method_48_code 5 (some .int) 1 22 R cells slots cy D ρ A p s m args meth c) {x1 : Int32} {x2 : Int32} {x3 : Int32} {u : gSt} {z : (Int32 × gSt)} (hM : M_Model_letter x1 x2 x3 u = some z) (hR : gRtI p l e R s m args below meth c Q H0 cells slots cy D ρ A prog_13_method_48_code z.1 z.2) : gAt p l e R s m args below meth c Q H0 cells slots cy D ρ A 5 0 [(0, .ref (ρ 42)), (1, .int x1), (2, .int x2), (3, .int x3)] [] u := by
  intro ls H locs hl hP hS
  have hx := C.1
  have hb := C.2.1
  unfold M_Model_letter at hM
  refine lv_aload_n hx hb d_Model_letter_0 rfl (lv_at hl 0 rfl) ?_
  refine lv_iload_n hx hb d_Model_letter_1 rfl (lv_at hl 1 rfl) ?_
  refine lv_if_lt (tgt := 24) hx hb d_Model_letter_2 (by decide) (fun hc2 => ?_) (fun hc2 => ?_)
  · replace hM := gi_t hc2 hM
    exact t_Model_letter_b24 C hM hR ls H locs (lv_sub hl [0, 1, 2, 3] rfl) hP hS
  · replace hM := gi_f hc2 hM
    refine lv_iload_n hx hb d_Model_letter_5 rfl (lv_at hl 1 rfl) ?_
    refine lv_iload_n hx hb d_Model_letter_6 rfl (lv_at hl 2 rfl) ?_
    refine lv_if_eq (tgt := 17) hx hb d_Model_letter_7 (by decide) (fun hc7 => ?_) (fun hc7 => ?_)
    · replace hM := gi_t hc7 hM
      refine lv_aload_n hx hb d_Model_letter_17 rfl (lv_at hl 0 rfl) ?_
      refine g_getI C hP gl_DeskModel_184 rfl rfl d_Model_letter_18 ?_
      exact t_Model_letter_b21 C hM hR ls H locs (lv_sub hl [0, 1, 2, 3] rfl) hP hS
    · replace hM := gi_f hc7 hM
      refine lv_aload_n hx hb d_Model_letter_10 rfl (lv_at hl 0 rfl) ?_
      refine g_getI C hP gl_DeskModel_164 rfl rfl d_Model_letter_11 ?_
      refine lv_goto (tgt := 21) hx hb d_Model_letter_14 (by decide) ?_
      exact t_Model_letter_b21 C hM hR ls H locs (lv_sub hl [0, 1, 2, 3] rfl) hP hS
theorem c_Model_letter {l : Launch} {cy : Nat → ClassId} {D : va_G} {ρ : Nat → Nat} {A : Nat → Prop} (hD : gD ρ A) {x1 : Int32} {x2 : Int32} {x3 : Int32} {u : gSt} {z : (Int32 × gSt)} (hM : M_Model_letter x1 x2 x3 u = some z) : gCtI l y_Model_letter prog_13_method_48_code 5 (some .int) 1 22 cy D ρ A [.ref (ρ 42), .int x1, .int x2, .int x3] u z.1 z.2 :=
  g_met (by decide) hD (Nat.le_of_ble_eq_true rfl) (fun p e s m below meth c ls X hl hP => t_Model_letter X hM (fun pc ls H locs hd hP hS => g_iret X hP hS hd) ls _ [] hl hP va_S.rf)
end
section
variable {p : Program} {l : Launch} {e : Env} {R : Room} {s : State} {m : MethodId} {args : Array Value} {below : List Frame} {meth : Method} {c : Code} {Q : State → Prop} {H0 : Heap} {cells slots : Nat} {cy : Nat → ClassId} {D : va_G} {ρ : Nat → Nat} {A : Nat → Prop}
def y_Model_isAbove : MethodName := ⟨"TermDeskModel", "isAbove", "(II)Z"⟩
theorem gi_Model_isAbove : gMi y_Model_isAbove prog_13_method_49_code 3 (some .boolean) 2 8 := ⟨(gWs_at 1289 (by decide +kernel) (by decide +kernel)), (gWs_at 1287 (by decide +kernel) (by decide +kernel)), (gWs_at 1288 (by decide +kernel) (by decide +kernel)), (gWs_at 125 (by decide +kernel) (by decide +kernel)), ⟨by decide +kernel, by decide +kernel, by decide +kernel⟩, _, _, rfl⟩
theorem gm_Law_92 : gMk "TermDeskLaw" 92 y_Model_isAbove := Or.inl (gWs_at 1286 (by decide +kernel) (by decide +kernel))
theorem d_Model_isAbove_0 : decode prog_13_method_49_code 0 = .ok (.aload_n 0, 1) := by decide +kernel
theorem d_Model_isAbove_1 : decode prog_13_method_49_code 1 = .ok (.aload_n 0, 1) := by decide +kernel
theorem d_Model_isAbove_2 : decode prog_13_method_49_code 2 = .ok (.iload_n 1, 1) := by decide +kernel
theorem d_Model_isAbove_3 : decode prog_13_method_49_code 3 = .ok (.invokevirtual 249, 3) := by decide +kernel
theorem d_Model_isAbove_6 : decode prog_13_method_49_code 6 = .ok (.ifCond .eq 11, 3) := by decide +kernel
theorem d_Model_isAbove_9 : decode prog_13_method_49_code 9 = .ok (.aload_n 0, 1) := by decide +kernel
theorem d_Model_isAbove_10 : decode prog_13_method_49_code 10 = .ok (.iload_n 2, 1) := by decide +kernel
theorem d_Model_isAbove_11 : decode prog_13_method_49_code 11 = .ok (.invokevirtual 249, 3) := by decide +kernel
theorem d_Model_isAbove_14 : decode prog_13_method_49_code 14 = .ok (.ifCond .ne 7, 3) := by decide +kernel
theorem d_Model_isAbove_17 : decode prog_13_method_49_code 17 = .ok (.iconst 1, 1) := by decide +kernel
theorem d_Model_isAbove_18 : decode prog_13_method_49_code 18 = .ok (.goto 4, 3) := by decide +kernel
theorem d_Model_isAbove_21 : decode prog_13_method_49_code 21 = .ok (.iconst 0, 1) := by decide +kernel
theorem d_Model_isAbove_22 : decode prog_13_method_49_code 22 = .ok (.iconst 1, 1) := by decide +kernel
theorem d_Model_isAbove_23 : decode prog_13_method_49_code 23 = .ok (.invokevirtual 133, 3) := by decide +kernel
theorem d_Model_isAbove_26 : decode prog_13_method_49_code 26 = .ok (.ifCond .eq 5, 3) := by decide +kernel
theorem d_Model_isAbove_29 : decode prog_13_method_49_code 29 = .ok (.iconst 0, 1) := by decide +kernel
theorem d_Model_isAbove_30 : decode prog_13_method_49_code 30 = .ok (.ireturn, 1) := by decide +kernel
theorem d_Model_isAbove_31 : decode prog_13_method_49_code 31 = .ok (.aload_n 0, 1) := by decide +kernel
theorem d_Model_isAbove_32 : decode prog_13_method_49_code 32 = .ok (.getfield 41, 3) := by decide +kernel
theorem d_Model_isAbove_35 : decode prog_13_method_49_code 35 = .ok (.sipush 200, 3) := by decide +kernel
theorem d_Model_isAbove_38 : decode prog_13_method_49_code 38 = .ok (.iload_n 2, 1) := by decide +kernel
theorem d_Model_isAbove_39 : decode prog_13_method_49_code 39 = .ok (.imul, 1) := by decide +kernel
theorem d_Model_isAbove_40 : decode prog_13_method_49_code 40 = .ok (.iload_n 1, 1) := by decide +kernel
theorem d_Model_isAbove_41 : decode prog_13_method_49_code 41 = .ok (.iadd, 1) := by decide +kernel
theorem d_Model_isAbove_42 : decode prog_13_method_49_code 42 = .ok (.baload, 1) := by decide +kernel
theorem d_Model_isAbove_43 : decode prog_13_method_49_code 43 = .ok (.ireturn, 1) := by decide +kernel
noncomputable def M_Model_isAbove_b22 (x1 : Int32) (x2 : Int32) (s0 : Int32) (u : gSt) : Option ((Int32 × gSt)) :=
  (M_Model_fails s0 (1 : Int32) u).bind fun q23 =>
  if q23.1 = (0 : Int32) then
    (gc (gIn (((200 : Int32) * x2) + x1) (gLen 51)) <| gc (gZ (q23.2.2.2.1 51 (gIx (((200 : Int32) * x2) + x1)))) <| some (q23.2.2.2.1 51 (gIx (((200 : Int32) * x2) + x1)), q23.2))
  else
    (some ((0 : Int32), q23.2))
set_option maxHeartbeats 4000000 in
set_option maxRecDepth 100000 in
theorem t_Model_isAbove_b22 (C : gX "TermDeskModel" prog_13_method_49_code 3 (some .boolean) 1 22 R cells slots cy D ρ A p s m args meth c) {x1 : Int32} {x2 : Int32} {s0 : Int32} {u : gSt} {z : (Int32 × gSt)} (hM : M_Model_isAbove_b22 x1 x2 s0 u = some z) (hR : gRtZ p l e R s m args below meth c Q H0 cells slots cy D ρ A prog_13_method_49_code z.1 z.2) : gAt p l e R s m args below meth c Q H0 cells slots cy D ρ A 3 22 [(0, .ref (ρ 42)), (1, .int x1), (2, .int x2)] [.int s0, .ref (ρ 42)] u := by
  intro ls H locs hl hP hS
  have hx := C.1
  have hb := C.2.1
  unfold M_Model_isAbove_b22 at hM
  refine lv_iconst (v := (1 : Int32)) hx hb d_Model_isAbove_22 (by decide) ?_
  obtain ⟨q23, hq23, hM⟩ := gb_some hM
  refine g_backI (g_runV (As := [.int s0, .int (1 : Int32)]) C hP (c_Model_fails C.2.2.2.2.2.2.2.2.1 hq23) gi_Model_fails gm_Model_133 rfl rfl (by decide) (by decide) hl.1 rfl (Nat.le_of_ble_eq_true rfl) d_Model_isAbove_23) hS (fun H locs hP hS => ?_)
  refine lv_if_eq (tgt := 31) hx hb d_Model_isAbove_26 (by decide) (fun hc26 => ?_) (fun hc26 => ?_)
  · replace hM := gi_t hc26 hM
    refine lv_aload_n hx hb d_Model_isAbove_31 rfl (lv_at hl 0 rfl) ?_
    refine g_getR (b := 51) C hP gl_DeskModel_41 rfl rfl rfl d_Model_isAbove_32 ?_
    refine lv_sipush (v := (200 : Int32)) hx hb d_Model_isAbove_35 (by decide) ?_
    refine lv_iload_n hx hb d_Model_isAbove_38 rfl (lv_at hl 2 rfl) ?_
    refine lv_imul hx hb d_Model_isAbove_39 ?_
    refine lv_iload_n hx hb d_Model_isAbove_40 rfl (lv_at hl 1 rfl) ?_
    refine lv_iadd hx hb d_Model_isAbove_41 ?_
    obtain ⟨hi42, hM⟩ := gc_some hM
    refine g_zald C hP rfl hi42 d_Model_isAbove_42 ?_
    obtain ⟨hz43, hM⟩ := gc_some hM
    obtain rfl := Option.some.inj hM
    exact hR _ ls H locs hz43 d_Model_isAbove_43 hP hS
  · replace hM := gi_f hc26 hM
    refine lv_iconst (v := (0 : Int32)) hx hb d_Model_isAbove_29 (by decide) ?_
    obtain rfl := Option.some.inj hM
    exact hR _ ls H locs rfl d_Model_isAbove_30 hP hS
noncomputable def M_Model_isAbove_b17 (x1 : Int32) (x2 : Int32) (u : gSt) : Option ((Int32 × gSt)) :=
  M_Model_isAbove_b22 x1 x2 (1 : Int32) u
set_option maxHeartbeats 4000000 in
set_option maxRecDepth 100000 in
theorem t_Model_isAbove_b17 (C : gX "TermDeskModel" prog_13_method_49_code 3 (some .boolean) 1 22 R cells slots cy D ρ A p s m args meth c) {x1 : Int32} {x2 : Int32} {u : gSt} {z : (Int32 × gSt)} (hM : M_Model_isAbove_b17 x1 x2 u = some z) (hR : gRtZ p l e R s m args below meth c Q H0 cells slots cy D ρ A prog_13_method_49_code z.1 z.2) : gAt p l e R s m args below meth c Q H0 cells slots cy D ρ A 3 17 [(0, .ref (ρ 42)), (1, .int x1), (2, .int x2)] [.ref (ρ 42)] u := by
  intro ls H locs hl hP hS
  have hx := C.1
  have hb := C.2.1
  unfold M_Model_isAbove_b17 at hM
  refine lv_iconst (v := (1 : Int32)) hx hb d_Model_isAbove_17 (by decide) ?_
  refine lv_goto (tgt := 22) hx hb d_Model_isAbove_18 (by decide) ?_
  exact t_Model_isAbove_b22 C hM hR ls H locs (lv_sub hl [0, 1, 2] rfl) hP hS
noncomputable def M_Model_isAbove (x1 : Int32) (x2 : Int32) (u : gSt) : Option ((Int32 × gSt)) :=
  (M_Model_isTerm x1 u).bind fun q3 =>
  if q3.1 = (0 : Int32) then
    (M_Model_isAbove_b17 x1 x2 q3.2)
  else
    ((M_Model_isTerm x2 q3.2).bind fun q11 =>
    if q11.1 = (0 : Int32) then
      (M_Model_isAbove_b17 x1 x2 q11.2)
    else
      (M_Model_isAbove_b22 x1 x2 (0 : Int32) q11.2))
set_option maxHeartbeats 4000000 in
set_option maxRecDepth 100000 in
theorem t_Model_isAbove (C : gX "TermDeskModel" prog_13_method_49_code 3 (some .boolean) 1 22 R cells slots cy D ρ A p s m args meth c) {x1 : Int32} {x2 : Int32} {u : gSt} {z : (Int32 × gSt)} (hM : M_Model_isAbove x1 x2 u = some z) (hR : gRtZ p l e R s m args below meth c Q H0 cells slots cy D ρ A prog_13_method_49_code z.1 z.2) : gAt p l e R s m args below meth c Q H0 cells slots cy D ρ A 3 0 [(0, .ref (ρ 42)), (1, .int x1), (2, .int x2)] [] u := by
  intro ls H locs hl hP hS
  have hx := C.1
  have hb := C.2.1
  unfold M_Model_isAbove at hM
  refine lv_aload_n hx hb d_Model_isAbove_0 rfl (lv_at hl 0 rfl) ?_
  refine lv_aload_n hx hb d_Model_isAbove_1 rfl (lv_at hl 0 rfl) ?_
  refine lv_iload_n hx hb d_Model_isAbove_2 rfl (lv_at hl 1 rfl) ?_
  obtain ⟨q3, hq3, hM⟩ := gb_some hM
  refine g_backI (g_runV (As := [.int x1]) C hP (c_Model_isTerm C.2.2.2.2.2.2.2.2.1 hq3) gi_Model_isTerm gm_Model_249 rfl rfl (by decide) (by decide) hl.1 rfl (Nat.le_of_ble_eq_true rfl) d_Model_isAbove_3) hS (fun H locs hP hS => ?_)
  refine lv_if_eq (tgt := 17) hx hb d_Model_isAbove_6 (by decide) (fun hc6 => ?_) (fun hc6 => ?_)
  · replace hM := gi_t hc6 hM
    exact t_Model_isAbove_b17 C hM hR ls H locs (lv_sub hl [0, 1, 2] rfl) hP hS
  · replace hM := gi_f hc6 hM
    refine lv_aload_n hx hb d_Model_isAbove_9 rfl (lv_at hl 0 rfl) ?_
    refine lv_iload_n hx hb d_Model_isAbove_10 rfl (lv_at hl 2 rfl) ?_
    obtain ⟨q11, hq11, hM⟩ := gb_some hM
    refine g_backI (g_runV (As := [.int x2]) C hP (c_Model_isTerm C.2.2.2.2.2.2.2.2.1 hq11) gi_Model_isTerm gm_Model_249 rfl rfl (by decide) (by decide) hl.1 rfl (Nat.le_of_ble_eq_true rfl) d_Model_isAbove_11) hS (fun H locs hP hS => ?_)
    refine lv_if_ne (tgt := 21) hx hb d_Model_isAbove_14 (by decide) (fun hc14 => ?_) (fun hc14 => ?_)
    · replace hM := gi_f hc14 hM
      refine lv_iconst (v := (0 : Int32)) hx hb d_Model_isAbove_21 (by decide) ?_
      exact t_Model_isAbove_b22 C hM hR ls H locs (lv_sub hl [0, 1, 2] rfl) hP hS
    · replace hM := gi_t hc14 hM
      exact t_Model_isAbove_b17 C hM hR ls H locs (lv_sub hl [0, 1, 2] rfl) hP hS
theorem c_Model_isAbove {l : Launch} {cy : Nat → ClassId} {D : va_G} {ρ : Nat → Nat} {A : Nat → Prop} (hD : gD ρ A) {x1 : Int32} {x2 : Int32} {u : gSt} {z : (Int32 × gSt)} (hM : M_Model_isAbove x1 x2 u = some z) : gCtI l y_Model_isAbove prog_13_method_49_code 3 (some .boolean) 1 22 cy D ρ A [.ref (ρ 42), .int x1, .int x2] u z.1 z.2 :=
  g_met (by decide) hD (Nat.le_of_ble_eq_true rfl) (fun p e s m below meth c ls X hl hP => t_Model_isAbove X hM (fun pc ls H locs hz hd hP hS => g_zret X hP hS hz hd) ls _ [] hl hP va_S.rf)
end
section
variable {p : Program} {l : Launch} {e : Env} {R : Room} {s : State} {m : MethodId} {args : Array Value} {below : List Frame} {meth : Method} {c : Code} {Q : State → Prop} {H0 : Heap} {cells slots : Nat} {cy : Nat → ClassId} {D : va_G} {ρ : Nat → Nat} {A : Nat → Prop}
def y_Model_isAt : MethodName := ⟨"TermDeskModel", "isAt", "(II)Z"⟩
theorem gi_Model_isAt : gMi y_Model_isAt prog_13_method_50_code 3 (some .boolean) 2 8 := ⟨(gWs_at 1293 (by decide +kernel) (by decide +kernel)), (gWs_at 1291 (by decide +kernel) (by decide +kernel)), (gWs_at 1292 (by decide +kernel) (by decide +kernel)), (gWs_at 125 (by decide +kernel) (by decide +kernel)), ⟨by decide +kernel, by decide +kernel, by decide +kernel⟩, _, _, rfl⟩
theorem gm_Law_95 : gMk "TermDeskLaw" 95 y_Model_isAt := Or.inl (gWs_at 1290 (by decide +kernel) (by decide +kernel))
theorem d_Model_isAt_0 : decode prog_13_method_50_code 0 = .ok (.aload_n 0, 1) := by decide +kernel
theorem d_Model_isAt_1 : decode prog_13_method_50_code 1 = .ok (.iload_n 1, 1) := by decide +kernel
theorem d_Model_isAt_2 : decode prog_13_method_50_code 2 = .ok (.ifCond .lt 19, 3) := by decide +kernel
theorem d_Model_isAt_5 : decode prog_13_method_50_code 5 = .ok (.iload_n 1, 1) := by decide +kernel
theorem d_Model_isAt_6 : decode prog_13_method_50_code 6 = .ok (.aload_n 0, 1) := by decide +kernel
theorem d_Model_isAt_7 : decode prog_13_method_50_code 7 = .ok (.getfield 164, 3) := by decide +kernel
theorem d_Model_isAt_10 : decode prog_13_method_50_code 10 = .ok (.if_icmp .ge 11, 3) := by decide +kernel
theorem d_Model_isAt_13 : decode prog_13_method_50_code 13 = .ok (.aload_n 0, 1) := by decide +kernel
theorem d_Model_isAt_14 : decode prog_13_method_50_code 14 = .ok (.iload_n 2, 1) := by decide +kernel
theorem d_Model_isAt_15 : decode prog_13_method_50_code 15 = .ok (.invokevirtual 249, 3) := by decide +kernel
theorem d_Model_isAt_18 : decode prog_13_method_50_code 18 = .ok (.ifCond .ne 7, 3) := by decide +kernel
theorem d_Model_isAt_21 : decode prog_13_method_50_code 21 = .ok (.iconst 1, 1) := by decide +kernel
theorem d_Model_isAt_22 : decode prog_13_method_50_code 22 = .ok (.goto 4, 3) := by decide +kernel
theorem d_Model_isAt_25 : decode prog_13_method_50_code 25 = .ok (.iconst 0, 1) := by decide +kernel
theorem d_Model_isAt_26 : decode prog_13_method_50_code 26 = .ok (.iconst 1, 1) := by decide +kernel
theorem d_Model_isAt_27 : decode prog_13_method_50_code 27 = .ok (.invokevirtual 133, 3) := by decide +kernel
theorem d_Model_isAt_30 : decode prog_13_method_50_code 30 = .ok (.ifCond .eq 5, 3) := by decide +kernel
theorem d_Model_isAt_33 : decode prog_13_method_50_code 33 = .ok (.iconst 0, 1) := by decide +kernel
theorem d_Model_isAt_34 : decode prog_13_method_50_code 34 = .ok (.ireturn, 1) := by decide +kernel
theorem d_Model_isAt_35 : decode prog_13_method_50_code 35 = .ok (.aload_n 0, 1) := by decide +kernel
theorem d_Model_isAt_36 : decode prog_13_method_50_code 36 = .ok (.invokevirtual 236, 3) := by decide +kernel
theorem d_Model_isAt_39 : decode prog_13_method_50_code 39 = .ok (.aload_n 0, 1) := by decide +kernel
theorem d_Model_isAt_40 : decode prog_13_method_50_code 40 = .ok (.getfield 47, 3) := by decide +kernel
theorem d_Model_isAt_43 : decode prog_13_method_50_code 43 = .ok (.sipush 200, 3) := by decide +kernel
theorem d_Model_isAt_46 : decode prog_13_method_50_code 46 = .ok (.iload_n 1, 1) := by decide +kernel
theorem d_Model_isAt_47 : decode prog_13_method_50_code 47 = .ok (.imul, 1) := by decide +kernel
theorem d_Model_isAt_48 : decode prog_13_method_50_code 48 = .ok (.iload_n 2, 1) := by decide +kernel
theorem d_Model_isAt_49 : decode prog_13_method_50_code 49 = .ok (.iadd, 1) := by decide +kernel
theorem d_Model_isAt_50 : decode prog_13_method_50_code 50 = .ok (.baload, 1) := by decide +kernel
theorem d_Model_isAt_51 : decode prog_13_method_50_code 51 = .ok (.ireturn, 1) := by decide +kernel
noncomputable def M_Model_isAt_b26 (x1 : Int32) (x2 : Int32) (s0 : Int32) (u : gSt) : Option ((Int32 × gSt)) :=
  (M_Model_fails s0 (1 : Int32) u).bind fun q27 =>
  if q27.1 = (0 : Int32) then
    ((M_Model_spread q27.2).bind fun q36 =>
    gc (gIn (((200 : Int32) * x1) + x2) (gLen 53)) <| gc (gZ (q36.2.2.1 53 (gIx (((200 : Int32) * x1) + x2)))) <| some (q36.2.2.1 53 (gIx (((200 : Int32) * x1) + x2)), q36))
  else
    (some ((0 : Int32), q27.2))
set_option maxHeartbeats 4000000 in
set_option maxRecDepth 100000 in
theorem t_Model_isAt_b26 (C : gX "TermDeskModel" prog_13_method_50_code 3 (some .boolean) 1 24 R cells slots cy D ρ A p s m args meth c) {x1 : Int32} {x2 : Int32} {s0 : Int32} {u : gSt} {z : (Int32 × gSt)} (hM : M_Model_isAt_b26 x1 x2 s0 u = some z) (hR : gRtZ p l e R s m args below meth c Q H0 cells slots cy D ρ A prog_13_method_50_code z.1 z.2) : gAt p l e R s m args below meth c Q H0 cells slots cy D ρ A 3 26 [(0, .ref (ρ 42)), (1, .int x1), (2, .int x2)] [.int s0, .ref (ρ 42)] u := by
  intro ls H locs hl hP hS
  have hx := C.1
  have hb := C.2.1
  unfold M_Model_isAt_b26 at hM
  refine lv_iconst (v := (1 : Int32)) hx hb d_Model_isAt_26 (by decide) ?_
  obtain ⟨q27, hq27, hM⟩ := gb_some hM
  refine g_backI (g_runV (As := [.int s0, .int (1 : Int32)]) C hP (c_Model_fails C.2.2.2.2.2.2.2.2.1 hq27) gi_Model_fails gm_Model_133 rfl rfl (by decide) (by decide) hl.1 rfl (Nat.le_of_ble_eq_true rfl) d_Model_isAt_27) hS (fun H locs hP hS => ?_)
  refine lv_if_eq (tgt := 35) hx hb d_Model_isAt_30 (by decide) (fun hc30 => ?_) (fun hc30 => ?_)
  · replace hM := gi_t hc30 hM
    refine lv_aload_n hx hb d_Model_isAt_35 rfl (lv_at hl 0 rfl) ?_
    obtain ⟨q36, hq36, hM⟩ := gb_some hM
    refine g_backV (g_runV (As := []) C hP (c_Model_spread C.2.2.2.2.2.2.2.2.1 hq36) gi_Model_spread gm_Model_236 rfl rfl (by decide) (by decide) hl.1 rfl (Nat.le_of_ble_eq_true rfl) d_Model_isAt_36) hS (fun H locs hP hS => ?_)
    refine lv_aload_n hx hb d_Model_isAt_39 rfl (lv_at hl 0 rfl) ?_
    refine g_getR (b := 53) C hP gl_DeskModel_47 rfl rfl rfl d_Model_isAt_40 ?_
    refine lv_sipush (v := (200 : Int32)) hx hb d_Model_isAt_43 (by decide) ?_
    refine lv_iload_n hx hb d_Model_isAt_46 rfl (lv_at hl 1 rfl) ?_
    refine lv_imul hx hb d_Model_isAt_47 ?_
    refine lv_iload_n hx hb d_Model_isAt_48 rfl (lv_at hl 2 rfl) ?_
    refine lv_iadd hx hb d_Model_isAt_49 ?_
    obtain ⟨hi50, hM⟩ := gc_some hM
    refine g_zald C hP rfl hi50 d_Model_isAt_50 ?_
    obtain ⟨hz51, hM⟩ := gc_some hM
    obtain rfl := Option.some.inj hM
    exact hR _ ls H locs hz51 d_Model_isAt_51 hP hS
  · replace hM := gi_f hc30 hM
    refine lv_iconst (v := (0 : Int32)) hx hb d_Model_isAt_33 (by decide) ?_
    obtain rfl := Option.some.inj hM
    exact hR _ ls H locs rfl d_Model_isAt_34 hP hS
noncomputable def M_Model_isAt_b21 (x1 : Int32) (x2 : Int32) (u : gSt) : Option ((Int32 × gSt)) :=
  M_Model_isAt_b26 x1 x2 (1 : Int32) u
set_option maxHeartbeats 4000000 in
set_option maxRecDepth 100000 in
theorem t_Model_isAt_b21 (C : gX "TermDeskModel" prog_13_method_50_code 3 (some .boolean) 1 24 R cells slots cy D ρ A p s m args meth c) {x1 : Int32} {x2 : Int32} {u : gSt} {z : (Int32 × gSt)} (hM : M_Model_isAt_b21 x1 x2 u = some z) (hR : gRtZ p l e R s m args below meth c Q H0 cells slots cy D ρ A prog_13_method_50_code z.1 z.2) : gAt p l e R s m args below meth c Q H0 cells slots cy D ρ A 3 21 [(0, .ref (ρ 42)), (1, .int x1), (2, .int x2)] [.ref (ρ 42)] u := by
  intro ls H locs hl hP hS
  have hx := C.1
  have hb := C.2.1
  unfold M_Model_isAt_b21 at hM
  refine lv_iconst (v := (1 : Int32)) hx hb d_Model_isAt_21 (by decide) ?_
  refine lv_goto (tgt := 26) hx hb d_Model_isAt_22 (by decide) ?_
  exact t_Model_isAt_b26 C hM hR ls H locs (lv_sub hl [0, 1, 2] rfl) hP hS
noncomputable def M_Model_isAt (x1 : Int32) (x2 : Int32) (u : gSt) : Option ((Int32 × gSt)) :=
  if x1 < (0 : Int32) then
    (M_Model_isAt_b21 x1 x2 u)
  else
    (if (u.1 42 10) ≤ x1 then
      (M_Model_isAt_b21 x1 x2 u)
    else
      ((M_Model_isTerm x2 u).bind fun q15 =>
      if q15.1 = (0 : Int32) then
        (M_Model_isAt_b21 x1 x2 q15.2)
      else
        (M_Model_isAt_b26 x1 x2 (0 : Int32) q15.2)))
set_option maxHeartbeats 4000000 in
set_option maxRecDepth 100000 in
theorem t_Model_isAt (C : gX "TermDeskModel" prog_13_method_50_code 3 (some .boolean) 1 24 R cells slots cy D ρ A p s m args meth c) {x1 : Int32} {x2 : Int32} {u : gSt} {z : (Int32 × gSt)} (hM : M_Model_isAt x1 x2 u = some z) (hR : gRtZ p l e R s m args below meth c Q H0 cells slots cy D ρ A prog_13_method_50_code z.1 z.2) : gAt p l e R s m args below meth c Q H0 cells slots cy D ρ A 3 0 [(0, .ref (ρ 42)), (1, .int x1), (2, .int x2)] [] u := by
  intro ls H locs hl hP hS
  have hx := C.1
  have hb := C.2.1
  unfold M_Model_isAt at hM
  refine lv_aload_n hx hb d_Model_isAt_0 rfl (lv_at hl 0 rfl) ?_
  refine lv_iload_n hx hb d_Model_isAt_1 rfl (lv_at hl 1 rfl) ?_
  refine lv_if_lt (tgt := 21) hx hb d_Model_isAt_2 (by decide) (fun hc2 => ?_) (fun hc2 => ?_)
  · replace hM := gi_t hc2 hM
    exact t_Model_isAt_b21 C hM hR ls H locs (lv_sub hl [0, 1, 2] rfl) hP hS
  · replace hM := gi_f hc2 hM
    refine lv_iload_n hx hb d_Model_isAt_5 rfl (lv_at hl 1 rfl) ?_
    refine lv_aload_n hx hb d_Model_isAt_6 rfl (lv_at hl 0 rfl) ?_
    refine g_getI C hP gl_DeskModel_164 rfl rfl d_Model_isAt_7 ?_
    refine lv_icmp_ge (tgt := 21) hx hb d_Model_isAt_10 (by decide) (fun hc10 => ?_) (fun hc10 => ?_)
    · replace hM := gi_t hc10 hM
      exact t_Model_isAt_b21 C hM hR ls H locs (lv_sub hl [0, 1, 2] rfl) hP hS
    · replace hM := gi_f hc10 hM
      refine lv_aload_n hx hb d_Model_isAt_13 rfl (lv_at hl 0 rfl) ?_
      refine lv_iload_n hx hb d_Model_isAt_14 rfl (lv_at hl 2 rfl) ?_
      obtain ⟨q15, hq15, hM⟩ := gb_some hM
      refine g_backI (g_runV (As := [.int x2]) C hP (c_Model_isTerm C.2.2.2.2.2.2.2.2.1 hq15) gi_Model_isTerm gm_Model_249 rfl rfl (by decide) (by decide) hl.1 rfl (Nat.le_of_ble_eq_true rfl) d_Model_isAt_15) hS (fun H locs hP hS => ?_)
      refine lv_if_ne (tgt := 25) hx hb d_Model_isAt_18 (by decide) (fun hc18 => ?_) (fun hc18 => ?_)
      · replace hM := gi_f hc18 hM
        refine lv_iconst (v := (0 : Int32)) hx hb d_Model_isAt_25 (by decide) ?_
        exact t_Model_isAt_b26 C hM hR ls H locs (lv_sub hl [0, 1, 2] rfl) hP hS
      · replace hM := gi_t hc18 hM
        exact t_Model_isAt_b21 C hM hR ls H locs (lv_sub hl [0, 1, 2] rfl) hP hS
theorem c_Model_isAt {l : Launch} {cy : Nat → ClassId} {D : va_G} {ρ : Nat → Nat} {A : Nat → Prop} (hD : gD ρ A) {x1 : Int32} {x2 : Int32} {u : gSt} {z : (Int32 × gSt)} (hM : M_Model_isAt x1 x2 u = some z) : gCtI l y_Model_isAt prog_13_method_50_code 3 (some .boolean) 1 24 cy D ρ A [.ref (ρ 42), .int x1, .int x2] u z.1 z.2 :=
  g_met (by decide) hD (Nat.le_of_ble_eq_true rfl) (fun p e s m below meth c ls X hl hP => t_Model_isAt X hM (fun pc ls H locs hz hd hP hS => g_zret X hP hS hz hd) ls _ [] hl hP va_S.rf)
end
section
variable {p : Program} {l : Launch} {e : Env} {R : Room} {s : State} {m : MethodId} {args : Array Value} {below : List Frame} {meth : Method} {c : Code} {Q : State → Prop} {H0 : Heap} {cells slots : Nat} {cy : Nat → ClassId} {D : va_G} {ρ : Nat → Nat} {A : Nat → Prop}
def y_Model_count : MethodName := ⟨"TermDeskModel", "count", "(I)V"⟩
theorem gi_Model_count : gMi y_Model_count prog_13_method_51_code 4 none 1 8 := ⟨(gWs_at 1330 (by decide +kernel) (by decide +kernel)), (gWs_at 1329 (by decide +kernel) (by decide +kernel)), (gWs_at 98 (by decide +kernel) (by decide +kernel)), (gWs_at 125 (by decide +kernel) (by decide +kernel)), ⟨by decide +kernel, by decide +kernel, by decide +kernel⟩, _, _, rfl⟩
theorem gm_Model_265 : gMk "TermDeskModel" 265 y_Model_count := Or.inl (gWs_at 1327 (by decide +kernel) (by decide +kernel))
theorem d_Model_count_0 : decode prog_13_method_51_code 0 = .ok (.aload_n 0, 1) := by decide +kernel
theorem d_Model_count_1 : decode prog_13_method_51_code 1 = .ok (.iload_n 1, 1) := by decide +kernel
theorem d_Model_count_2 : decode prog_13_method_51_code 2 = .ok (.iconst 0, 1) := by decide +kernel
theorem d_Model_count_3 : decode prog_13_method_51_code 3 = .ok (.invokevirtual 239, 3) := by decide +kernel
theorem d_Model_count_6 : decode prog_13_method_51_code 6 = .ok (.istore_n 2, 1) := by decide +kernel
theorem d_Model_count_7 : decode prog_13_method_51_code 7 = .ok (.aload_n 0, 1) := by decide +kernel
theorem d_Model_count_8 : decode prog_13_method_51_code 8 = .ok (.iconst 0, 1) := by decide +kernel
theorem d_Model_count_9 : decode prog_13_method_51_code 9 = .ok (.iconst 0, 1) := by decide +kernel
theorem d_Model_count_10 : decode prog_13_method_51_code 10 = .ok (.invokevirtual 116, 3) := by decide +kernel
theorem d_Model_count_13 : decode prog_13_method_51_code 13 = .ok (.aload_n 0, 1) := by decide +kernel
theorem d_Model_count_14 : decode prog_13_method_51_code 14 = .ok (.iload_n 1, 1) := by decide +kernel
theorem d_Model_count_15 : decode prog_13_method_51_code 15 = .ok (.iconst 1, 1) := by decide +kernel
theorem d_Model_count_16 : decode prog_13_method_51_code 16 = .ok (.invokevirtual 239, 3) := by decide +kernel
theorem d_Model_count_19 : decode prog_13_method_51_code 19 = .ok (.istore_n 3, 1) := by decide +kernel
theorem d_Model_count_20 : decode prog_13_method_51_code 20 = .ok (.iload_n 3, 1) := by decide +kernel
theorem d_Model_count_21 : decode prog_13_method_51_code 21 = .ok (.iload_n 2, 1) := by decide +kernel
theorem d_Model_count_22 : decode prog_13_method_51_code 22 = .ok (.if_icmp .gt 55, 3) := by decide +kernel
theorem d_Model_count_25 : decode prog_13_method_51_code 25 = .ok (.iload_n 3, 1) := by decide +kernel
theorem d_Model_count_26 : decode prog_13_method_51_code 26 = .ok (.aload_n 0, 1) := by decide +kernel
theorem d_Model_count_27 : decode prog_13_method_51_code 27 = .ok (.getfield 230, 3) := by decide +kernel
theorem d_Model_count_30 : decode prog_13_method_51_code 30 = .ok (.if_icmp .gt 47, 3) := by decide +kernel
theorem d_Model_count_33 : decode prog_13_method_51_code 33 = .ok (.aload_n 0, 1) := by decide +kernel
theorem d_Model_count_34 : decode prog_13_method_51_code 34 = .ok (.iconst 1, 1) := by decide +kernel
theorem d_Model_count_35 : decode prog_13_method_51_code 35 = .ok (.iload_n 2, 1) := by decide +kernel
theorem d_Model_count_36 : decode prog_13_method_51_code 36 = .ok (.iload_n 3, 1) := by decide +kernel
theorem d_Model_count_37 : decode prog_13_method_51_code 37 = .ok (.invokevirtual 256, 3) := by decide +kernel
theorem d_Model_count_40 : decode prog_13_method_51_code 40 = .ok (.aload_n 0, 1) := by decide +kernel
theorem d_Model_count_41 : decode prog_13_method_51_code 41 = .ok (.iconst 2, 1) := by decide +kernel
theorem d_Model_count_42 : decode prog_13_method_51_code 42 = .ok (.aload_n 0, 1) := by decide +kernel
theorem d_Model_count_43 : decode prog_13_method_51_code 43 = .ok (.getfield 164, 3) := by decide +kernel
theorem d_Model_count_46 : decode prog_13_method_51_code 46 = .ok (.iload_n 2, 1) := by decide +kernel
theorem d_Model_count_47 : decode prog_13_method_51_code 47 = .ok (.isub, 1) := by decide +kernel
theorem d_Model_count_48 : decode prog_13_method_51_code 48 = .ok (.aload_n 0, 1) := by decide +kernel
theorem d_Model_count_49 : decode prog_13_method_51_code 49 = .ok (.getfield 230, 3) := by decide +kernel
theorem d_Model_count_52 : decode prog_13_method_51_code 52 = .ok (.iload_n 3, 1) := by decide +kernel
theorem d_Model_count_53 : decode prog_13_method_51_code 53 = .ok (.isub, 1) := by decide +kernel
theorem d_Model_count_54 : decode prog_13_method_51_code 54 = .ok (.invokevirtual 256, 3) := by decide +kernel
theorem d_Model_count_57 : decode prog_13_method_51_code 57 = .ok (.aload_n 0, 1) := by decide +kernel
theorem d_Model_count_58 : decode prog_13_method_51_code 58 = .ok (.iconst 3, 1) := by decide +kernel
theorem d_Model_count_59 : decode prog_13_method_51_code 59 = .ok (.iconst 1, 1) := by decide +kernel
theorem d_Model_count_60 : decode prog_13_method_51_code 60 = .ok (.iconst 2, 1) := by decide +kernel
theorem d_Model_count_61 : decode prog_13_method_51_code 61 = .ok (.invokevirtual 259, 3) := by decide +kernel
theorem d_Model_count_64 : decode prog_13_method_51_code 64 = .ok (.aload_n 0, 1) := by decide +kernel
theorem d_Model_count_65 : decode prog_13_method_51_code 65 = .ok (.iconst 0, 1) := by decide +kernel
theorem d_Model_count_66 : decode prog_13_method_51_code 66 = .ok (.iconst 3, 1) := by decide +kernel
theorem d_Model_count_67 : decode prog_13_method_51_code 67 = .ok (.iconst 1, 1) := by decide +kernel
theorem d_Model_count_68 : decode prog_13_method_51_code 68 = .ok (.invokevirtual 108, 3) := by decide +kernel
theorem d_Model_count_71 : decode prog_13_method_51_code 71 = .ok (.iinc 3 1, 3) := by decide +kernel
theorem d_Model_count_74 : decode prog_13_method_51_code 74 = .ok (.goto (-54), 3) := by decide +kernel
theorem d_Model_count_77 : decode prog_13_method_51_code 77 = .ok (.return_, 1) := by decide +kernel
noncomputable def M_Model_count_b20 (x2 : Int32) (x3 : Int32) (u : gSt) : Option ((Int32 × Int32 × gSt) ⊕ ((gSt))) :=
  if x2 < x3 then
    (some (.inr u))
  else
    (if (u.1 42 21) < x3 then
      (some (.inr u))
    else
      ((M_Model_choose (1 : Int32) x2 x3 u).bind fun q37 =>
      (M_Model_choose (2 : Int32) ((q37.1 42 10) - x2) ((q37.1 42 21) - x3) q37).bind fun q54 =>
      (M_Model_product (3 : Int32) (1 : Int32) (2 : Int32) q54).bind fun q61 =>
      (M_Model_addNumber (0 : Int32) (3 : Int32) (1 : Int32) q61).bind fun q68 =>
      some (.inl (x2, x3 + (1 : Int32), q68))))
set_option maxHeartbeats 4000000 in
set_option maxRecDepth 100000 in
theorem t_Model_count_b20 (C : gX "TermDeskModel" prog_13_method_51_code 4 none 3 74 R cells slots cy D ρ A p s m args meth c) {x2 : Int32} {x3 : Int32} {u : gSt} {z : (Int32 × Int32 × gSt) ⊕ ((gSt))} (hM : M_Model_count_b20 x2 x3 u = some z) (hN : ∀ x2' x3' u', z = .inl (x2', x3', u') → gAt p l e R s m args below meth c Q H0 cells slots cy D ρ A 4 20 [(0, .ref (ρ 42)), (2, .int (x2')), (3, .int (x3'))] [] (u')) (hE0 : ∀ u', z = .inr u' → gAt p l e R s m args below meth c Q H0 cells slots cy D ρ A 4 77 [] [] (u')) : gAt p l e R s m args below meth c Q H0 cells slots cy D ρ A 4 20 [(0, .ref (ρ 42)), (2, .int x2), (3, .int x3)] [] u := by
  intro ls H locs hl hP hS
  have hx := C.1
  have hb := C.2.1
  unfold M_Model_count_b20 at hM
  refine lv_iload_n hx hb d_Model_count_20 rfl (lv_at hl 2 rfl) ?_
  refine lv_iload_n hx hb d_Model_count_21 rfl (lv_at hl 1 rfl) ?_
  refine lv_icmp_gt (tgt := 77) hx hb d_Model_count_22 (by decide) (fun hc22 => ?_) (fun hc22 => ?_)
  · replace hM := gi_t hc22 hM
    exact hE0 _ (Option.some.inj hM).symm ls H locs (lv_sub hl [] rfl) hP hS
  · replace hM := gi_f hc22 hM
    refine lv_iload_n hx hb d_Model_count_25 rfl (lv_at hl 2 rfl) ?_
    refine lv_aload_n hx hb d_Model_count_26 rfl (lv_at hl 0 rfl) ?_
    refine g_getI C hP gl_DeskModel_230 rfl rfl d_Model_count_27 ?_
    refine lv_icmp_gt (tgt := 77) hx hb d_Model_count_30 (by decide) (fun hc30 => ?_) (fun hc30 => ?_)
    · replace hM := gi_t hc30 hM
      exact hE0 _ (Option.some.inj hM).symm ls H locs (lv_sub hl [] rfl) hP hS
    · replace hM := gi_f hc30 hM
      refine lv_aload_n hx hb d_Model_count_33 rfl (lv_at hl 0 rfl) ?_
      refine lv_iconst (v := (1 : Int32)) hx hb d_Model_count_34 (by decide) ?_
      refine lv_iload_n hx hb d_Model_count_35 rfl (lv_at hl 1 rfl) ?_
      refine lv_iload_n hx hb d_Model_count_36 rfl (lv_at hl 2 rfl) ?_
      obtain ⟨q37, hq37, hM⟩ := gb_some hM
      refine g_backV (g_runV (As := [.int (1 : Int32), .int x2, .int x3]) C hP (c_Model_choose C.2.2.2.2.2.2.2.2.1 hq37) gi_Model_choose gm_Model_256 rfl rfl (by decide) (by decide) hl.1 rfl (Nat.le_of_ble_eq_true rfl) d_Model_count_37) hS (fun H locs hP hS => ?_)
      refine lv_aload_n hx hb d_Model_count_40 rfl (lv_at hl 0 rfl) ?_
      refine lv_iconst (v := (2 : Int32)) hx hb d_Model_count_41 (by decide) ?_
      refine lv_aload_n hx hb d_Model_count_42 rfl (lv_at hl 0 rfl) ?_
      refine g_getI C hP gl_DeskModel_164 rfl rfl d_Model_count_43 ?_
      refine lv_iload_n hx hb d_Model_count_46 rfl (lv_at hl 1 rfl) ?_
      refine lv_isub hx hb d_Model_count_47 ?_
      refine lv_aload_n hx hb d_Model_count_48 rfl (lv_at hl 0 rfl) ?_
      refine g_getI C hP gl_DeskModel_230 rfl rfl d_Model_count_49 ?_
      refine lv_iload_n hx hb d_Model_count_52 rfl (lv_at hl 2 rfl) ?_
      refine lv_isub hx hb d_Model_count_53 ?_
      obtain ⟨q54, hq54, hM⟩ := gb_some hM
      refine g_backV (g_runV (As := [.int (2 : Int32), .int ((q37.1 42 10) - x2), .int ((q37.1 42 21) - x3)]) C hP (c_Model_choose C.2.2.2.2.2.2.2.2.1 hq54) gi_Model_choose gm_Model_256 rfl rfl (by decide) (by decide) hl.1 rfl (Nat.le_of_ble_eq_true rfl) d_Model_count_54) hS (fun H locs hP hS => ?_)
      refine lv_aload_n hx hb d_Model_count_57 rfl (lv_at hl 0 rfl) ?_
      refine lv_iconst (v := (3 : Int32)) hx hb d_Model_count_58 (by decide) ?_
      refine lv_iconst (v := (1 : Int32)) hx hb d_Model_count_59 (by decide) ?_
      refine lv_iconst (v := (2 : Int32)) hx hb d_Model_count_60 (by decide) ?_
      obtain ⟨q61, hq61, hM⟩ := gb_some hM
      refine g_backV (g_runV (As := [.int (3 : Int32), .int (1 : Int32), .int (2 : Int32)]) C hP (c_Model_product C.2.2.2.2.2.2.2.2.1 hq61) gi_Model_product gm_Model_259 rfl rfl (by decide) (by decide) hl.1 rfl (Nat.le_of_ble_eq_true rfl) d_Model_count_61) hS (fun H locs hP hS => ?_)
      refine lv_aload_n hx hb d_Model_count_64 rfl (lv_at hl 0 rfl) ?_
      refine lv_iconst (v := (0 : Int32)) hx hb d_Model_count_65 (by decide) ?_
      refine lv_iconst (v := (3 : Int32)) hx hb d_Model_count_66 (by decide) ?_
      refine lv_iconst (v := (1 : Int32)) hx hb d_Model_count_67 (by decide) ?_
      obtain ⟨q68, hq68, hM⟩ := gb_some hM
      refine g_backV (g_runV (As := [.int (0 : Int32), .int (3 : Int32), .int (1 : Int32)]) C hP (c_Model_addNumber C.2.2.2.2.2.2.2.2.1 hq68) gi_Model_addNumber gm_Model_108 rfl rfl (by decide) (by decide) hl.1 rfl (Nat.le_of_ble_eq_true rfl) d_Model_count_68) hS (fun H locs hP hS => ?_)
      refine lv_iinc (k := 2) (v := x3 + (1 : Int32)) (lv' := [(3, .int (x3 + (1 : Int32))), (0, .ref (ρ 42)), (2, .int x2)]) hx hb d_Model_count_71 hl rfl (congrArg (fun z => x3 + z) (by decide)) (by decide) rfl (fun ls hl => ?_)
      refine lv_goto (tgt := 20) hx hb d_Model_count_74 (by decide) ?_
      exact hN _ _ _ (Option.some.inj hM).symm ls H locs (lv_sub hl [1, 2, 0] rfl) hP hS
noncomputable def M_Model_count_L20 : (Int32 × Int32 × gSt) → Option ((Int32 × Int32 × gSt) ⊕ ((gSt))) := fun x => M_Model_count_b20 x.1 x.2.1 x.2.2
theorem t_Model_count_L20 (C : gX "TermDeskModel" prog_13_method_51_code 4 none 3 74 R cells slots cy D ρ A p s m args meth c) {x2 : Int32} {x3 : Int32} {u : gSt} {yy : (gSt)} (hL : gLp M_Model_count_L20 (x2, x3, u) = some yy) (hE0 : (∀ y', yy = y' → gAt p l e R s m args below meth c Q H0 cells slots cy D ρ A 4 77 [] [] (y'))) : gAt p l e R s m args below meth c Q H0 cells slots cy D ρ A 4 20 [(0, .ref (ρ 42)), (2, .int x2), (3, .int x3)] [] u :=
  g_loop (f := M_Model_count_L20) (P := fun x => gAt p l e R s m args below meth c Q H0 cells slots cy D ρ A 4 20 [(0, .ref (ρ 42)), (2, .int x.1), (3, .int x.2.1)] [] x.2.2) (E := fun yy => (∀ y', yy = y' → gAt p l e R s m args below meth c Q H0 cells slots cy D ρ A 4 77 [] [] (y'))) (fun x z hf hN hE => t_Model_count_b20 C hf (fun x2' x3' u' h => hN (x2', x3', u') h) (fun u' h => (hE _ h) u' rfl)) hL hE0
noncomputable def M_Model_count (x1 : Int32) (u : gSt) : Option (gSt) :=
  (M_Model_genesAt x1 (0 : Int32) u).bind fun q3 =>
  (M_Model_set (0 : Int32) (0 : Int32) q3.2).bind fun q10 =>
  (M_Model_genesAt x1 (1 : Int32) q10).bind fun q16 =>
  (gLp M_Model_count_L20 (q3.1, q16.1, q16.2)).bind fun y20 =>
  some y20
set_option maxHeartbeats 4000000 in
set_option maxRecDepth 100000 in
theorem t_Model_count (C : gX "TermDeskModel" prog_13_method_51_code 4 none 3 74 R cells slots cy D ρ A p s m args meth c) {x1 : Int32} {u : gSt} {z : gSt} (hM : M_Model_count x1 u = some z) (hR : gRtV p l e R s m args below meth c Q H0 cells slots cy D ρ A prog_13_method_51_code z) : gAt p l e R s m args below meth c Q H0 cells slots cy D ρ A 4 0 [(0, .ref (ρ 42)), (1, .int x1)] [] u := by
  intro ls H locs hl hP hS
  have hx := C.1
  have hb := C.2.1
  unfold M_Model_count at hM
  refine lv_aload_n hx hb d_Model_count_0 rfl (lv_at hl 0 rfl) ?_
  refine lv_iload_n hx hb d_Model_count_1 rfl (lv_at hl 1 rfl) ?_
  refine lv_iconst (v := (0 : Int32)) hx hb d_Model_count_2 (by decide) ?_
  obtain ⟨q3, hq3, hM⟩ := gb_some hM
  refine g_backI (g_runV (As := [.int x1, .int (0 : Int32)]) C hP (c_Model_genesAt C.2.2.2.2.2.2.2.2.1 hq3) gi_Model_genesAt gm_Model_239 rfl rfl (by decide) (by decide) hl.1 rfl (Nat.le_of_ble_eq_true rfl) d_Model_count_3) hS (fun H locs hP hS => ?_)
  refine lv_istore_n (lv' := [(2, .int q3.1), (0, .ref (ρ 42)), (1, .int x1)]) hx hb d_Model_count_6 rfl hl (by decide) rfl (fun ls hl => ?_)
  refine lv_aload_n hx hb d_Model_count_7 rfl (lv_at hl 1 rfl) ?_
  refine lv_iconst (v := (0 : Int32)) hx hb d_Model_count_8 (by decide) ?_
  refine lv_iconst (v := (0 : Int32)) hx hb d_Model_count_9 (by decide) ?_
  obtain ⟨q10, hq10, hM⟩ := gb_some hM
  refine g_backV (g_runV (As := [.int (0 : Int32), .int (0 : Int32)]) C hP (c_Model_set C.2.2.2.2.2.2.2.2.1 hq10) gi_Model_set gm_Model_116 rfl rfl (by decide) (by decide) hl.1 rfl (Nat.le_of_ble_eq_true rfl) d_Model_count_10) hS (fun H locs hP hS => ?_)
  refine lv_aload_n hx hb d_Model_count_13 rfl (lv_at hl 1 rfl) ?_
  refine lv_iload_n hx hb d_Model_count_14 rfl (lv_at hl 2 rfl) ?_
  refine lv_iconst (v := (1 : Int32)) hx hb d_Model_count_15 (by decide) ?_
  obtain ⟨q16, hq16, hM⟩ := gb_some hM
  refine g_backI (g_runV (As := [.int x1, .int (1 : Int32)]) C hP (c_Model_genesAt C.2.2.2.2.2.2.2.2.1 hq16) gi_Model_genesAt gm_Model_239 rfl rfl (by decide) (by decide) hl.1 rfl (Nat.le_of_ble_eq_true rfl) d_Model_count_16) hS (fun H locs hP hS => ?_)
  refine lv_istore_n (lv' := [(3, .int q16.1), (2, .int q3.1), (0, .ref (ρ 42)), (1, .int x1)]) hx hb d_Model_count_19 rfl hl (by decide) rfl (fun ls hl => ?_)
  obtain ⟨y20, hL20, hM⟩ := gb_some hM
  refine t_Model_count_L20 C hL20 (fun y20_0 hy => ?_) ls H locs (lv_sub hl [2, 1, 0] rfl) hP hS
  · subst hy
    intro ls H locs hl hP hS
    obtain rfl := Option.some.inj hM
    exact hR _ ls H locs d_Model_count_77 hP hS
theorem c_Model_count {l : Launch} {cy : Nat → ClassId} {D : va_G} {ρ : Nat → Nat} {A : Nat → Prop} (hD : gD ρ A) {x1 : Int32} {u : gSt} {z : gSt} (hM : M_Model_count x1 u = some z) : gCtV l y_Model_count prog_13_method_51_code 4 none 3 74 cy D ρ A [.ref (ρ 42), .int x1] u z :=
  g_met (by decide) hD (Nat.le_of_ble_eq_true rfl) (fun p e s m below meth c ls X hl hP => t_Model_count X hM (fun pc ls H locs hd hP hS => g_vret X hP hS hd) ls _ [] hl hP va_S.rf)
end
section
variable {p : Program} {l : Launch} {e : Env} {R : Room} {s : State} {m : MethodId} {args : Array Value} {below : List Frame} {meth : Method} {c : Code} {Q : State → Prop} {H0 : Heap} {cells slots : Nat} {cy : Nat → ClassId} {D : va_G} {ρ : Nat → Nat} {A : Nat → Prop}
def y_Model_rank : MethodName := ⟨"TermDeskModel", "rank", "()V"⟩
theorem gi_Model_rank : gMi y_Model_rank prog_13_method_52_code 3 none 0 8 := ⟨(gWs_at 1301 (by decide +kernel) (by decide +kernel)), (gWs_at 1300 (by decide +kernel) (by decide +kernel)), (gWs_at 91 (by decide +kernel) (by decide +kernel)), (gWs_at 125 (by decide +kernel) (by decide +kernel)), ⟨by decide +kernel, by decide +kernel, by decide +kernel⟩, _, _, rfl⟩
theorem gm_Model_288 : gMk "TermDeskModel" 288 y_Model_rank := Or.inl (gWs_at 1298 (by decide +kernel) (by decide +kernel))
theorem d_Model_rank_0 : decode prog_13_method_52_code 0 = .ok (.aload_n 0, 1) := by decide +kernel
theorem d_Model_rank_1 : decode prog_13_method_52_code 1 = .ok (.iconst 4, 1) := by decide +kernel
theorem d_Model_rank_2 : decode prog_13_method_52_code 2 = .ok (.aload_n 0, 1) := by decide +kernel
theorem d_Model_rank_3 : decode prog_13_method_52_code 3 = .ok (.getfield 164, 3) := by decide +kernel
theorem d_Model_rank_6 : decode prog_13_method_52_code 6 = .ok (.aload_n 0, 1) := by decide +kernel
theorem d_Model_rank_7 : decode prog_13_method_52_code 7 = .ok (.getfield 230, 3) := by decide +kernel
theorem d_Model_rank_10 : decode prog_13_method_52_code 10 = .ok (.invokevirtual 256, 3) := by decide +kernel
theorem d_Model_rank_13 : decode prog_13_method_52_code 13 = .ok (.aload_n 0, 1) := by decide +kernel
theorem d_Model_rank_14 : decode prog_13_method_52_code 14 = .ok (.iconst 0, 1) := by decide +kernel
theorem d_Model_rank_15 : decode prog_13_method_52_code 15 = .ok (.putfield 262, 3) := by decide +kernel
theorem d_Model_rank_18 : decode prog_13_method_52_code 18 = .ok (.iconst 0, 1) := by decide +kernel
theorem d_Model_rank_19 : decode prog_13_method_52_code 19 = .ok (.istore_n 1, 1) := by decide +kernel
theorem d_Model_rank_20 : decode prog_13_method_52_code 20 = .ok (.iload_n 1, 1) := by decide +kernel
theorem d_Model_rank_21 : decode prog_13_method_52_code 21 = .ok (.aload_n 0, 1) := by decide +kernel
theorem d_Model_rank_22 : decode prog_13_method_52_code 22 = .ok (.getfield 184, 3) := by decide +kernel
theorem d_Model_rank_25 : decode prog_13_method_52_code 25 = .ok (.if_icmp .ge 124, 3) := by decide +kernel
theorem d_Model_rank_28 : decode prog_13_method_52_code 28 = .ok (.aload_n 0, 1) := by decide +kernel
theorem d_Model_rank_29 : decode prog_13_method_52_code 29 = .ok (.iload_n 1, 1) := by decide +kernel
theorem d_Model_rank_30 : decode prog_13_method_52_code 30 = .ok (.invokevirtual 243, 3) := by decide +kernel
theorem d_Model_rank_33 : decode prog_13_method_52_code 33 = .ok (.ifCond .ne 6, 3) := by decide +kernel
theorem d_Model_rank_36 : decode prog_13_method_52_code 36 = .ok (.goto 107, 3) := by decide +kernel
theorem d_Model_rank_39 : decode prog_13_method_52_code 39 = .ok (.aload_n 0, 1) := by decide +kernel
theorem d_Model_rank_40 : decode prog_13_method_52_code 40 = .ok (.iload_n 1, 1) := by decide +kernel
theorem d_Model_rank_41 : decode prog_13_method_52_code 41 = .ok (.invokevirtual 265, 3) := by decide +kernel
theorem d_Model_rank_44 : decode prog_13_method_52_code 44 = .ok (.aload_n 0, 1) := by decide +kernel
theorem d_Model_rank_45 : decode prog_13_method_52_code 45 = .ok (.getfield 262, 3) := by decide +kernel
theorem d_Model_rank_48 : decode prog_13_method_52_code 48 = .ok (.istore_n 2, 1) := by decide +kernel
theorem d_Model_rank_49 : decode prog_13_method_52_code 49 = .ok (.iload_n 2, 1) := by decide +kernel
theorem d_Model_rank_50 : decode prog_13_method_52_code 50 = .ok (.ifCond .le 63, 3) := by decide +kernel
theorem d_Model_rank_53 : decode prog_13_method_52_code 53 = .ok (.aload_n 0, 1) := by decide +kernel
theorem d_Model_rank_54 : decode prog_13_method_52_code 54 = .ok (.iconst 5, 1) := by decide +kernel
theorem d_Model_rank_55 : decode prog_13_method_52_code 55 = .ok (.aload_n 0, 1) := by decide +kernel
theorem d_Model_rank_56 : decode prog_13_method_52_code 56 = .ok (.getfield 59, 3) := by decide +kernel
theorem d_Model_rank_59 : decode prog_13_method_52_code 59 = .ok (.bipush 20, 2) := by decide +kernel
theorem d_Model_rank_61 : decode prog_13_method_52_code 61 = .ok (.iload_n 2, 1) := by decide +kernel
theorem d_Model_rank_62 : decode prog_13_method_52_code 62 = .ok (.iconst 1, 1) := by decide +kernel
theorem d_Model_rank_63 : decode prog_13_method_52_code 63 = .ok (.isub, 1) := by decide +kernel
theorem d_Model_rank_64 : decode prog_13_method_52_code 64 = .ok (.imul, 1) := by decide +kernel
theorem d_Model_rank_65 : decode prog_13_method_52_code 65 = .ok (.invokevirtual 268, 3) := by decide +kernel
theorem d_Model_rank_68 : decode prog_13_method_52_code 68 = .ok (.aload_n 0, 1) := by decide +kernel
theorem d_Model_rank_69 : decode prog_13_method_52_code 69 = .ok (.iconst 5, 1) := by decide +kernel
theorem d_Model_rank_70 : decode prog_13_method_52_code 70 = .ok (.iconst 0, 1) := by decide +kernel
theorem d_Model_rank_71 : decode prog_13_method_52_code 71 = .ok (.invokevirtual 121, 3) := by decide +kernel
theorem d_Model_rank_74 : decode prog_13_method_52_code 74 = .ok (.ifCond .gt 6, 3) := by decide +kernel
theorem d_Model_rank_77 : decode prog_13_method_52_code 77 = .ok (.goto 36, 3) := by decide +kernel
theorem d_Model_rank_80 : decode prog_13_method_52_code 80 = .ok (.aload_n 0, 1) := by decide +kernel
theorem d_Model_rank_81 : decode prog_13_method_52_code 81 = .ok (.iconst 5, 1) := by decide +kernel
theorem d_Model_rank_82 : decode prog_13_method_52_code 82 = .ok (.aload_n 0, 1) := by decide +kernel
theorem d_Model_rank_83 : decode prog_13_method_52_code 83 = .ok (.getfield 59, 3) := by decide +kernel
theorem d_Model_rank_86 : decode prog_13_method_52_code 86 = .ok (.bipush 20, 2) := by decide +kernel
theorem d_Model_rank_88 : decode prog_13_method_52_code 88 = .ok (.iload_n 2, 1) := by decide +kernel
theorem d_Model_rank_89 : decode prog_13_method_52_code 89 = .ok (.imul, 1) := by decide +kernel
theorem d_Model_rank_90 : decode prog_13_method_52_code 90 = .ok (.invokevirtual 272, 3) := by decide +kernel
theorem d_Model_rank_93 : decode prog_13_method_52_code 93 = .ok (.aload_n 0, 1) := by decide +kernel
theorem d_Model_rank_94 : decode prog_13_method_52_code 94 = .ok (.getfield 62, 3) := by decide +kernel
theorem d_Model_rank_97 : decode prog_13_method_52_code 97 = .ok (.iload_n 2, 1) := by decide +kernel
theorem d_Model_rank_98 : decode prog_13_method_52_code 98 = .ok (.aload_n 0, 1) := by decide +kernel
theorem d_Model_rank_99 : decode prog_13_method_52_code 99 = .ok (.getfield 62, 3) := by decide +kernel
theorem d_Model_rank_102 : decode prog_13_method_52_code 102 = .ok (.iload_n 2, 1) := by decide +kernel
theorem d_Model_rank_103 : decode prog_13_method_52_code 103 = .ok (.iconst 1, 1) := by decide +kernel
theorem d_Model_rank_104 : decode prog_13_method_52_code 104 = .ok (.isub, 1) := by decide +kernel
theorem d_Model_rank_105 : decode prog_13_method_52_code 105 = .ok (.iaload, 1) := by decide +kernel
theorem d_Model_rank_106 : decode prog_13_method_52_code 106 = .ok (.iastore, 1) := by decide +kernel
theorem d_Model_rank_107 : decode prog_13_method_52_code 107 = .ok (.iinc 2 (-1), 3) := by decide +kernel
theorem d_Model_rank_110 : decode prog_13_method_52_code 110 = .ok (.goto (-61), 3) := by decide +kernel
theorem d_Model_rank_113 : decode prog_13_method_52_code 113 = .ok (.aload_n 0, 1) := by decide +kernel
theorem d_Model_rank_114 : decode prog_13_method_52_code 114 = .ok (.iconst 0, 1) := by decide +kernel
theorem d_Model_rank_115 : decode prog_13_method_52_code 115 = .ok (.aload_n 0, 1) := by decide +kernel
theorem d_Model_rank_116 : decode prog_13_method_52_code 116 = .ok (.getfield 59, 3) := by decide +kernel
theorem d_Model_rank_119 : decode prog_13_method_52_code 119 = .ok (.bipush 20, 2) := by decide +kernel
theorem d_Model_rank_121 : decode prog_13_method_52_code 121 = .ok (.iload_n 2, 1) := by decide +kernel
theorem d_Model_rank_122 : decode prog_13_method_52_code 122 = .ok (.imul, 1) := by decide +kernel
theorem d_Model_rank_123 : decode prog_13_method_52_code 123 = .ok (.invokevirtual 272, 3) := by decide +kernel
theorem d_Model_rank_126 : decode prog_13_method_52_code 126 = .ok (.aload_n 0, 1) := by decide +kernel
theorem d_Model_rank_127 : decode prog_13_method_52_code 127 = .ok (.getfield 62, 3) := by decide +kernel
theorem d_Model_rank_130 : decode prog_13_method_52_code 130 = .ok (.iload_n 2, 1) := by decide +kernel
theorem d_Model_rank_131 : decode prog_13_method_52_code 131 = .ok (.iload_n 1, 1) := by decide +kernel
theorem d_Model_rank_132 : decode prog_13_method_52_code 132 = .ok (.iastore, 1) := by decide +kernel
theorem d_Model_rank_133 : decode prog_13_method_52_code 133 = .ok (.aload_n 0, 1) := by decide +kernel
theorem d_Model_rank_134 : decode prog_13_method_52_code 134 = .ok (.dup, 1) := by decide +kernel
theorem d_Model_rank_135 : decode prog_13_method_52_code 135 = .ok (.getfield 262, 3) := by decide +kernel
theorem d_Model_rank_138 : decode prog_13_method_52_code 138 = .ok (.iconst 1, 1) := by decide +kernel
theorem d_Model_rank_139 : decode prog_13_method_52_code 139 = .ok (.iadd, 1) := by decide +kernel
theorem d_Model_rank_140 : decode prog_13_method_52_code 140 = .ok (.putfield 262, 3) := by decide +kernel
theorem d_Model_rank_143 : decode prog_13_method_52_code 143 = .ok (.iinc 1 1, 3) := by decide +kernel
theorem d_Model_rank_146 : decode prog_13_method_52_code 146 = .ok (.goto (-126), 3) := by decide +kernel
theorem d_Model_rank_149 : decode prog_13_method_52_code 149 = .ok (.return_, 1) := by decide +kernel
noncomputable def M_Model_rank_b49 (x1 : Int32) (x2 : Int32) (u : gSt) : Option ((Int32 × Int32 × gSt) ⊕ ((Int32 × Int32 × gSt) ⊕ (Int32 × Int32 × gSt))) :=
  if x2 ≤ (0 : Int32) then
    (some (.inr (.inl (x1, x2, u))))
  else
    ((M_Model_load (5 : Int32) 57 ((20 : Int32) * (x2 - (1 : Int32))) u).bind fun q65 =>
    (M_Model_order (5 : Int32) (0 : Int32) q65).bind fun q71 =>
    if (0 : Int32) < q71.1 then
      ((M_Model_save (5 : Int32) 57 ((20 : Int32) * x2) q71.2).bind fun q90 =>
      gc (gIn (x2 - (1 : Int32)) (gLen 58)) <| gc (gIn x2 (gLen 58)) <| (some (gsA q90 58 (gIx x2) (q90.2.2.1 58 (gIx (x2 - (1 : Int32)))))).bind fun u106 =>
      some (.inl (x1, x2 + (-1 : Int32), u106)))
    else
      (some (.inr (.inr (x1, x2, q71.2)))))
set_option maxHeartbeats 4000000 in
set_option maxRecDepth 100000 in
theorem t_Model_rank_b49 (C : gX "TermDeskModel" prog_13_method_52_code 3 none 4 97 R cells slots cy D ρ A p s m args meth c) {x1 : Int32} {x2 : Int32} {u : gSt} {z : (Int32 × Int32 × gSt) ⊕ ((Int32 × Int32 × gSt) ⊕ (Int32 × Int32 × gSt))} (hM : M_Model_rank_b49 x1 x2 u = some z) (hN : ∀ x1' x2' u', z = .inl (x1', x2', u') → gAt p l e R s m args below meth c Q H0 cells slots cy D ρ A 3 49 [(0, .ref (ρ 42)), (1, .int (x1')), (2, .int (x2'))] [] (u')) (hE0 : ∀ x1' x2' u', z = .inr (.inl (x1', x2', u')) → gAt p l e R s m args below meth c Q H0 cells slots cy D ρ A 3 113 [(0, .ref (ρ 42)), (1, .int (x1')), (2, .int (x2'))] [] (u')) (hE1 : ∀ x1' x2' u', z = .inr (.inr (x1', x2', u')) → gAt p l e R s m args below meth c Q H0 cells slots cy D ρ A 3 77 [(0, .ref (ρ 42)), (1, .int (x1')), (2, .int (x2'))] [] (u')) : gAt p l e R s m args below meth c Q H0 cells slots cy D ρ A 3 49 [(0, .ref (ρ 42)), (1, .int x1), (2, .int x2)] [] u := by
  intro ls H locs hl hP hS
  have hx := C.1
  have hb := C.2.1
  unfold M_Model_rank_b49 at hM
  refine lv_iload_n hx hb d_Model_rank_49 rfl (lv_at hl 2 rfl) ?_
  refine lv_if_le (tgt := 113) hx hb d_Model_rank_50 (by decide) (fun hc50 => ?_) (fun hc50 => ?_)
  · replace hM := gi_t hc50 hM
    exact hE0 _ _ _ (Option.some.inj hM).symm ls H locs (lv_sub hl [0, 1, 2] rfl) hP hS
  · replace hM := gi_f hc50 hM
    refine lv_aload_n hx hb d_Model_rank_53 rfl (lv_at hl 0 rfl) ?_
    refine lv_iconst (v := (5 : Int32)) hx hb d_Model_rank_54 (by decide) ?_
    refine lv_aload_n hx hb d_Model_rank_55 rfl (lv_at hl 0 rfl) ?_
    refine g_getR (b := 57) C hP gl_DeskModel_59 rfl rfl rfl d_Model_rank_56 ?_
    refine lv_bipush (v := (20 : Int32)) hx hb d_Model_rank_59 (by decide) ?_
    refine lv_iload_n hx hb d_Model_rank_61 rfl (lv_at hl 2 rfl) ?_
    refine lv_iconst (v := (1 : Int32)) hx hb d_Model_rank_62 (by decide) ?_
    refine lv_isub hx hb d_Model_rank_63 ?_
    refine lv_imul hx hb d_Model_rank_64 ?_
    obtain ⟨q65, hq65, hM⟩ := gb_some hM
    refine g_backV (g_runV (As := [.int (5 : Int32), .ref (ρ 57), .int ((20 : Int32) * (x2 - (1 : Int32)))]) C hP (c_Model_load C.2.2.2.2.2.2.2.2.1 hq65) gi_Model_load gm_Model_268 rfl rfl (by decide) (by decide) hl.1 rfl (Nat.le_of_ble_eq_true rfl) d_Model_rank_65) hS (fun H locs hP hS => ?_)
    refine lv_aload_n hx hb d_Model_rank_68 rfl (lv_at hl 0 rfl) ?_
    refine lv_iconst (v := (5 : Int32)) hx hb d_Model_rank_69 (by decide) ?_
    refine lv_iconst (v := (0 : Int32)) hx hb d_Model_rank_70 (by decide) ?_
    obtain ⟨q71, hq71, hM⟩ := gb_some hM
    refine g_backI (g_runV (As := [.int (5 : Int32), .int (0 : Int32)]) C hP (c_Model_order C.2.2.2.2.2.2.2.2.1 hq71) gi_Model_order gm_Model_121 rfl rfl (by decide) (by decide) hl.1 rfl (Nat.le_of_ble_eq_true rfl) d_Model_rank_71) hS (fun H locs hP hS => ?_)
    refine lv_if_gt (tgt := 80) hx hb d_Model_rank_74 (by decide) (fun hc74 => ?_) (fun hc74 => ?_)
    · replace hM := gi_t hc74 hM
      refine lv_aload_n hx hb d_Model_rank_80 rfl (lv_at hl 0 rfl) ?_
      refine lv_iconst (v := (5 : Int32)) hx hb d_Model_rank_81 (by decide) ?_
      refine lv_aload_n hx hb d_Model_rank_82 rfl (lv_at hl 0 rfl) ?_
      refine g_getR (b := 57) C hP gl_DeskModel_59 rfl rfl rfl d_Model_rank_83 ?_
      refine lv_bipush (v := (20 : Int32)) hx hb d_Model_rank_86 (by decide) ?_
      refine lv_iload_n hx hb d_Model_rank_88 rfl (lv_at hl 2 rfl) ?_
      refine lv_imul hx hb d_Model_rank_89 ?_
      obtain ⟨q90, hq90, hM⟩ := gb_some hM
      refine g_backV (g_runV (As := [.int (5 : Int32), .ref (ρ 57), .int ((20 : Int32) * x2)]) C hP (c_Model_save C.2.2.2.2.2.2.2.2.1 hq90) gi_Model_save gm_Model_272 rfl rfl (by decide) (by decide) hl.1 rfl (Nat.le_of_ble_eq_true rfl) d_Model_rank_90) hS (fun H locs hP hS => ?_)
      refine lv_aload_n hx hb d_Model_rank_93 rfl (lv_at hl 0 rfl) ?_
      refine g_getR (b := 58) C hP gl_DeskModel_62 rfl rfl rfl d_Model_rank_94 ?_
      refine lv_iload_n hx hb d_Model_rank_97 rfl (lv_at hl 2 rfl) ?_
      refine lv_aload_n hx hb d_Model_rank_98 rfl (lv_at hl 0 rfl) ?_
      refine g_getR (b := 58) C hP gl_DeskModel_62 rfl rfl rfl d_Model_rank_99 ?_
      refine lv_iload_n hx hb d_Model_rank_102 rfl (lv_at hl 2 rfl) ?_
      refine lv_iconst (v := (1 : Int32)) hx hb d_Model_rank_103 (by decide) ?_
      refine lv_isub hx hb d_Model_rank_104 ?_
      obtain ⟨hi105, hM⟩ := gc_some hM
      refine g_iald C hP rfl hi105 d_Model_rank_105 ?_
      obtain ⟨hi106, hM⟩ := gc_some hM
      obtain ⟨u106, e106, hM⟩ := gb_some hM
      refine g_iast C hP hS rfl hi106 d_Model_rank_106 (fun H locs hP hS => ?_)
      rw [Option.some.inj e106] at hP
      refine lv_iinc (k := 2) (v := x2 + (-1 : Int32)) (lv' := [(2, .int (x2 + (-1 : Int32))), (0, .ref (ρ 42)), (1, .int x1)]) hx hb d_Model_rank_107 hl rfl (congrArg (fun z => x2 + z) (by decide)) (by decide) rfl (fun ls hl => ?_)
      refine lv_goto (tgt := 49) hx hb d_Model_rank_110 (by decide) ?_
      exact hN _ _ _ (Option.some.inj hM).symm ls H locs (lv_sub hl [1, 2, 0] rfl) hP hS
    · replace hM := gi_f hc74 hM
      exact hE1 _ _ _ (Option.some.inj hM).symm ls H locs (lv_sub hl [0, 1, 2] rfl) hP hS
noncomputable def M_Model_rank_L49 : (Int32 × Int32 × gSt) → Option ((Int32 × Int32 × gSt) ⊕ ((Int32 × Int32 × gSt) ⊕ (Int32 × Int32 × gSt))) := fun x => M_Model_rank_b49 x.1 x.2.1 x.2.2
theorem t_Model_rank_L49 (C : gX "TermDeskModel" prog_13_method_52_code 3 none 4 97 R cells slots cy D ρ A p s m args meth c) {x1 : Int32} {x2 : Int32} {u : gSt} {yy : (Int32 × Int32 × gSt) ⊕ (Int32 × Int32 × gSt)} (hL : gLp M_Model_rank_L49 (x1, x2, u) = some yy) (hE0 : (∀ y', yy = (.inl y') → gAt p l e R s m args below meth c Q H0 cells slots cy D ρ A 3 113 [(0, .ref (ρ 42)), (1, .int (y'.1)), (2, .int (y'.2.1))] [] (y'.2.2))) (hE1 : (∀ y', yy = (.inr y') → gAt p l e R s m args below meth c Q H0 cells slots cy D ρ A 3 77 [(0, .ref (ρ 42)), (1, .int (y'.1)), (2, .int (y'.2.1))] [] (y'.2.2))) : gAt p l e R s m args below meth c Q H0 cells slots cy D ρ A 3 49 [(0, .ref (ρ 42)), (1, .int x1), (2, .int x2)] [] u :=
  g_loop (f := M_Model_rank_L49) (P := fun x => gAt p l e R s m args below meth c Q H0 cells slots cy D ρ A 3 49 [(0, .ref (ρ 42)), (1, .int x.1), (2, .int x.2.1)] [] x.2.2) (E := fun yy => (∀ y', yy = (.inl y') → gAt p l e R s m args below meth c Q H0 cells slots cy D ρ A 3 113 [(0, .ref (ρ 42)), (1, .int (y'.1)), (2, .int (y'.2.1))] [] (y'.2.2)) ∧ (∀ y', yy = (.inr y') → gAt p l e R s m args below meth c Q H0 cells slots cy D ρ A 3 77 [(0, .ref (ρ 42)), (1, .int (y'.1)), (2, .int (y'.2.1))] [] (y'.2.2))) (fun x z hf hN hE => t_Model_rank_b49 C hf (fun x1' x2' u' h => hN (x1', x2', u') h) (fun x1' x2' u' h => (hE _ h).1 (x1', x2', u') rfl) (fun x1' x2' u' h => (hE _ h).2 (x1', x2', u') rfl)) hL ⟨hE0, hE1⟩
noncomputable def M_Model_rank_b143 (x1 : Int32) (u : gSt) : Option ((Int32 × gSt) ⊕ ((gSt))) :=
  some (.inl (x1 + (1 : Int32), u))
set_option maxHeartbeats 4000000 in
set_option maxRecDepth 100000 in
theorem t_Model_rank_b143 (C : gX "TermDeskModel" prog_13_method_52_code 3 none 4 97 R cells slots cy D ρ A p s m args meth c) {x1 : Int32} {u : gSt} {z : (Int32 × gSt) ⊕ ((gSt))} (hM : M_Model_rank_b143 x1 u = some z) (hN : ∀ x1' u', z = .inl (x1', u') → gAt p l e R s m args below meth c Q H0 cells slots cy D ρ A 3 20 [(0, .ref (ρ 42)), (1, .int (x1'))] [] (u')) (hE0 : ∀ u', z = .inr u' → gAt p l e R s m args below meth c Q H0 cells slots cy D ρ A 3 149 [] [] (u')) : gAt p l e R s m args below meth c Q H0 cells slots cy D ρ A 3 143 [(0, .ref (ρ 42)), (1, .int x1)] [] u := by
  intro ls H locs hl hP hS
  have hx := C.1
  have hb := C.2.1
  unfold M_Model_rank_b143 at hM
  refine lv_iinc (k := 1) (v := x1 + (1 : Int32)) (lv' := [(1, .int (x1 + (1 : Int32))), (0, .ref (ρ 42))]) hx hb d_Model_rank_143 hl rfl (congrArg (fun z => x1 + z) (by decide)) (by decide) rfl (fun ls hl => ?_)
  refine lv_goto (tgt := 20) hx hb d_Model_rank_146 (by decide) ?_
  exact hN _ _ (Option.some.inj hM).symm ls H locs (lv_sub hl [1, 0] rfl) hP hS
noncomputable def M_Model_rank_b113 (x1 : Int32) (x2 : Int32) (u : gSt) : Option ((Int32 × gSt) ⊕ ((gSt))) :=
  (M_Model_save (0 : Int32) 57 ((20 : Int32) * x2) u).bind fun q123 =>
  gc (gIn x2 (gLen 58)) <| (some (gsA q123 58 (gIx x2) x1)).bind fun u132 =>
  (some (gsF u132 42 31 ((u132.1 42 31) + (1 : Int32)))).bind fun u140 =>
  M_Model_rank_b143 x1 u140
set_option maxHeartbeats 4000000 in
set_option maxRecDepth 100000 in
theorem t_Model_rank_b113 (C : gX "TermDeskModel" prog_13_method_52_code 3 none 4 97 R cells slots cy D ρ A p s m args meth c) {x1 : Int32} {x2 : Int32} {u : gSt} {z : (Int32 × gSt) ⊕ ((gSt))} (hM : M_Model_rank_b113 x1 x2 u = some z) (hN : ∀ x1' u', z = .inl (x1', u') → gAt p l e R s m args below meth c Q H0 cells slots cy D ρ A 3 20 [(0, .ref (ρ 42)), (1, .int (x1'))] [] (u')) (hE0 : ∀ u', z = .inr u' → gAt p l e R s m args below meth c Q H0 cells slots cy D ρ A 3 149 [] [] (u')) : gAt p l e R s m args below meth c Q H0 cells slots cy D ρ A 3 113 [(0, .ref (ρ 42)), (1, .int x1), (2, .int x2)] [] u := by
  intro ls H locs hl hP hS
  have hx := C.1
  have hb := C.2.1
  unfold M_Model_rank_b113 at hM
  refine lv_aload_n hx hb d_Model_rank_113 rfl (lv_at hl 0 rfl) ?_
  refine lv_iconst (v := (0 : Int32)) hx hb d_Model_rank_114 (by decide) ?_
  refine lv_aload_n hx hb d_Model_rank_115 rfl (lv_at hl 0 rfl) ?_
  refine g_getR (b := 57) C hP gl_DeskModel_59 rfl rfl rfl d_Model_rank_116 ?_
  refine lv_bipush (v := (20 : Int32)) hx hb d_Model_rank_119 (by decide) ?_
  refine lv_iload_n hx hb d_Model_rank_121 rfl (lv_at hl 2 rfl) ?_
  refine lv_imul hx hb d_Model_rank_122 ?_
  obtain ⟨q123, hq123, hM⟩ := gb_some hM
  refine g_backV (g_runV (As := [.int (0 : Int32), .ref (ρ 57), .int ((20 : Int32) * x2)]) C hP (c_Model_save C.2.2.2.2.2.2.2.2.1 hq123) gi_Model_save gm_Model_272 rfl rfl (by decide) (by decide) hl.1 rfl (Nat.le_of_ble_eq_true rfl) d_Model_rank_123) hS (fun H locs hP hS => ?_)
  refine lv_aload_n hx hb d_Model_rank_126 rfl (lv_at hl 0 rfl) ?_
  refine g_getR (b := 58) C hP gl_DeskModel_62 rfl rfl rfl d_Model_rank_127 ?_
  refine lv_iload_n hx hb d_Model_rank_130 rfl (lv_at hl 2 rfl) ?_
  refine lv_iload_n hx hb d_Model_rank_131 rfl (lv_at hl 1 rfl) ?_
  obtain ⟨hi132, hM⟩ := gc_some hM
  obtain ⟨u132, e132, hM⟩ := gb_some hM
  refine g_iast C hP hS rfl hi132 d_Model_rank_132 (fun H locs hP hS => ?_)
  rw [Option.some.inj e132] at hP
  refine lv_aload_n hx hb d_Model_rank_133 rfl (lv_at hl 0 rfl) ?_
  refine lv_dup hx hb d_Model_rank_134 rfl ?_
  refine g_getI C hP gl_DeskModel_262 rfl rfl d_Model_rank_135 ?_
  refine lv_iconst (v := (1 : Int32)) hx hb d_Model_rank_138 (by decide) ?_
  refine lv_iadd hx hb d_Model_rank_139 ?_
  obtain ⟨u140, e140, hM⟩ := gb_some hM
  refine g_putI C hP hS gl_DeskModel_262 rfl rfl gq_8_31 d_Model_rank_140 (fun H locs hP hS => ?_)
  rw [Option.some.inj e140] at hP
  exact t_Model_rank_b143 C hM hN hE0 ls H locs (lv_sub hl [0, 1] rfl) hP hS
noncomputable def M_Model_rank_b20 (x1 : Int32) (u : gSt) : Option ((Int32 × gSt) ⊕ ((gSt))) :=
  if (u.1 42 11) ≤ x1 then
    (some (.inr u))
  else
    ((M_Model_isCandidate x1 u).bind fun q30 =>
    if q30.1 = (0 : Int32) then
      (M_Model_rank_b143 x1 q30.2)
    else
      ((M_Model_count x1 q30.2).bind fun q41 =>
      (gLp M_Model_rank_L49 (x1, q41.1 42 31, q41)).bind fun y49 =>
      (Sum.elim (fun y49_0 => M_Model_rank_b113 y49_0.1 y49_0.2.1 y49_0.2.2) (fun y49_1 => M_Model_rank_b113 y49_1.1 y49_1.2.1 y49_1.2.2)) y49))
set_option maxHeartbeats 4000000 in
set_option maxRecDepth 100000 in
theorem t_Model_rank_b20 (C : gX "TermDeskModel" prog_13_method_52_code 3 none 4 97 R cells slots cy D ρ A p s m args meth c) {x1 : Int32} {u : gSt} {z : (Int32 × gSt) ⊕ ((gSt))} (hM : M_Model_rank_b20 x1 u = some z) (hN : ∀ x1' u', z = .inl (x1', u') → gAt p l e R s m args below meth c Q H0 cells slots cy D ρ A 3 20 [(0, .ref (ρ 42)), (1, .int (x1'))] [] (u')) (hE0 : ∀ u', z = .inr u' → gAt p l e R s m args below meth c Q H0 cells slots cy D ρ A 3 149 [] [] (u')) : gAt p l e R s m args below meth c Q H0 cells slots cy D ρ A 3 20 [(0, .ref (ρ 42)), (1, .int x1)] [] u := by
  intro ls H locs hl hP hS
  have hx := C.1
  have hb := C.2.1
  unfold M_Model_rank_b20 at hM
  refine lv_iload_n hx hb d_Model_rank_20 rfl (lv_at hl 1 rfl) ?_
  refine lv_aload_n hx hb d_Model_rank_21 rfl (lv_at hl 0 rfl) ?_
  refine g_getI C hP gl_DeskModel_184 rfl rfl d_Model_rank_22 ?_
  refine lv_icmp_ge (tgt := 149) hx hb d_Model_rank_25 (by decide) (fun hc25 => ?_) (fun hc25 => ?_)
  · replace hM := gi_t hc25 hM
    exact hE0 _ (Option.some.inj hM).symm ls H locs (lv_sub hl [] rfl) hP hS
  · replace hM := gi_f hc25 hM
    refine lv_aload_n hx hb d_Model_rank_28 rfl (lv_at hl 0 rfl) ?_
    refine lv_iload_n hx hb d_Model_rank_29 rfl (lv_at hl 1 rfl) ?_
    obtain ⟨q30, hq30, hM⟩ := gb_some hM
    refine g_backI (g_runV (As := [.int x1]) C hP (c_Model_isCandidate C.2.2.2.2.2.2.2.2.1 hq30) gi_Model_isCandidate gm_Model_243 rfl rfl (by decide) (by decide) hl.1 rfl (Nat.le_of_ble_eq_true rfl) d_Model_rank_30) hS (fun H locs hP hS => ?_)
    refine lv_if_ne (tgt := 39) hx hb d_Model_rank_33 (by decide) (fun hc33 => ?_) (fun hc33 => ?_)
    · replace hM := gi_f hc33 hM
      refine lv_aload_n hx hb d_Model_rank_39 rfl (lv_at hl 0 rfl) ?_
      refine lv_iload_n hx hb d_Model_rank_40 rfl (lv_at hl 1 rfl) ?_
      obtain ⟨q41, hq41, hM⟩ := gb_some hM
      refine g_backV (g_runV (As := [.int x1]) C hP (c_Model_count C.2.2.2.2.2.2.2.2.1 hq41) gi_Model_count gm_Model_265 rfl rfl (by decide) (by decide) hl.1 rfl (Nat.le_of_ble_eq_true rfl) d_Model_rank_41) hS (fun H locs hP hS => ?_)
      refine lv_aload_n hx hb d_Model_rank_44 rfl (lv_at hl 0 rfl) ?_
      refine g_getI C hP gl_DeskModel_262 rfl rfl d_Model_rank_45 ?_
      refine lv_istore_n (lv' := [(2, .int (q41.1 42 31)), (0, .ref (ρ 42)), (1, .int x1)]) hx hb d_Model_rank_48 rfl hl (by decide) rfl (fun ls hl => ?_)
      obtain ⟨y49, hL49, hM⟩ := gb_some hM
      refine t_Model_rank_L49 C hL49 (fun y49_0 hy => ?_) (fun y49_1 hy => ?_) ls H locs (lv_sub hl [1, 2, 0] rfl) hP hS
      · subst hy
        replace hM := gs_l hM
        intro ls H locs hl hP hS
        exact t_Model_rank_b113 C hM hN hE0 ls H locs (lv_sub hl [0, 1, 2] rfl) hP hS
      · subst hy
        replace hM := gs_r hM
        intro ls H locs hl hP hS
        refine lv_goto (tgt := 113) hx hb d_Model_rank_77 (by decide) ?_
        exact t_Model_rank_b113 C hM hN hE0 ls H locs (lv_sub hl [0, 1, 2] rfl) hP hS
    · replace hM := gi_t hc33 hM
      refine lv_goto (tgt := 143) hx hb d_Model_rank_36 (by decide) ?_
      exact t_Model_rank_b143 C hM hN hE0 ls H locs (lv_sub hl [0, 1] rfl) hP hS
noncomputable def M_Model_rank_L20 : (Int32 × gSt) → Option ((Int32 × gSt) ⊕ ((gSt))) := fun x => M_Model_rank_b20 x.1 x.2
theorem t_Model_rank_L20 (C : gX "TermDeskModel" prog_13_method_52_code 3 none 4 97 R cells slots cy D ρ A p s m args meth c) {x1 : Int32} {u : gSt} {yy : (gSt)} (hL : gLp M_Model_rank_L20 (x1, u) = some yy) (hE0 : (∀ y', yy = y' → gAt p l e R s m args below meth c Q H0 cells slots cy D ρ A 3 149 [] [] (y'))) : gAt p l e R s m args below meth c Q H0 cells slots cy D ρ A 3 20 [(0, .ref (ρ 42)), (1, .int x1)] [] u :=
  g_loop (f := M_Model_rank_L20) (P := fun x => gAt p l e R s m args below meth c Q H0 cells slots cy D ρ A 3 20 [(0, .ref (ρ 42)), (1, .int x.1)] [] x.2) (E := fun yy => (∀ y', yy = y' → gAt p l e R s m args below meth c Q H0 cells slots cy D ρ A 3 149 [] [] (y'))) (fun x z hf hN hE => t_Model_rank_b20 C hf (fun x1' u' h => hN (x1', u') h) (fun u' h => (hE _ h) u' rfl)) hL hE0
noncomputable def M_Model_rank (u : gSt) : Option (gSt) :=
  (M_Model_choose (4 : Int32) (u.1 42 10) (u.1 42 21) u).bind fun q10 =>
  (some (gsF q10 42 31 (0 : Int32))).bind fun u15 =>
  (gLp M_Model_rank_L20 ((0 : Int32), u15)).bind fun y20 =>
  some y20
set_option maxHeartbeats 4000000 in
set_option maxRecDepth 100000 in
theorem t_Model_rank (C : gX "TermDeskModel" prog_13_method_52_code 3 none 4 97 R cells slots cy D ρ A p s m args meth c) {u : gSt} {z : gSt} (hM : M_Model_rank u = some z) (hR : gRtV p l e R s m args below meth c Q H0 cells slots cy D ρ A prog_13_method_52_code z) : gAt p l e R s m args below meth c Q H0 cells slots cy D ρ A 3 0 [(0, .ref (ρ 42))] [] u := by
  intro ls H locs hl hP hS
  have hx := C.1
  have hb := C.2.1
  unfold M_Model_rank at hM
  refine lv_aload_n hx hb d_Model_rank_0 rfl (lv_at hl 0 rfl) ?_
  refine lv_iconst (v := (4 : Int32)) hx hb d_Model_rank_1 (by decide) ?_
  refine lv_aload_n hx hb d_Model_rank_2 rfl (lv_at hl 0 rfl) ?_
  refine g_getI C hP gl_DeskModel_164 rfl rfl d_Model_rank_3 ?_
  refine lv_aload_n hx hb d_Model_rank_6 rfl (lv_at hl 0 rfl) ?_
  refine g_getI C hP gl_DeskModel_230 rfl rfl d_Model_rank_7 ?_
  obtain ⟨q10, hq10, hM⟩ := gb_some hM
  refine g_backV (g_runV (As := [.int (4 : Int32), .int (u.1 42 10), .int (u.1 42 21)]) C hP (c_Model_choose C.2.2.2.2.2.2.2.2.1 hq10) gi_Model_choose gm_Model_256 rfl rfl (by decide) (by decide) hl.1 rfl (Nat.le_of_ble_eq_true rfl) d_Model_rank_10) hS (fun H locs hP hS => ?_)
  refine lv_aload_n hx hb d_Model_rank_13 rfl (lv_at hl 0 rfl) ?_
  refine lv_iconst (v := (0 : Int32)) hx hb d_Model_rank_14 (by decide) ?_
  obtain ⟨u15, e15, hM⟩ := gb_some hM
  refine g_putI C hP hS gl_DeskModel_262 rfl rfl gq_8_31 d_Model_rank_15 (fun H locs hP hS => ?_)
  rw [Option.some.inj e15] at hP
  refine lv_iconst (v := (0 : Int32)) hx hb d_Model_rank_18 (by decide) ?_
  refine lv_istore_n (lv' := [(1, .int (0 : Int32)), (0, .ref (ρ 42))]) hx hb d_Model_rank_19 rfl hl (by decide) rfl (fun ls hl => ?_)
  obtain ⟨y20, hL20, hM⟩ := gb_some hM
  refine t_Model_rank_L20 C hL20 (fun y20_0 hy => ?_) ls H locs (lv_sub hl [1, 0] rfl) hP hS
  · subst hy
    intro ls H locs hl hP hS
    obtain rfl := Option.some.inj hM
    exact hR _ ls H locs d_Model_rank_149 hP hS
theorem c_Model_rank {l : Launch} {cy : Nat → ClassId} {D : va_G} {ρ : Nat → Nat} {A : Nat → Prop} (hD : gD ρ A) {u : gSt} {z : gSt} (hM : M_Model_rank u = some z) : gCtV l y_Model_rank prog_13_method_52_code 3 none 4 97 cy D ρ A [.ref (ρ 42)] u z :=
  g_met (by decide) hD (Nat.le_of_ble_eq_true rfl) (fun p e s m below meth c ls X hl hP => t_Model_rank X hM (fun pc ls H locs hd hP hS => g_vret X hP hS hd) ls _ [] hl hP va_S.rf)
end
section
variable {p : Program} {l : Launch} {e : Env} {R : Room} {s : State} {m : MethodId} {args : Array Value} {below : List Frame} {meth : Method} {c : Code} {Q : State → Prop} {H0 : Heap} {cells slots : Nat} {cy : Nat → ClassId} {D : va_G} {ρ : Nat → Nat} {A : Nat → Prop}
def y_Model_value : MethodName := ⟨"TermDeskModel", "value", "(III)I"⟩
theorem gi_Model_value : gMi y_Model_value prog_13_method_53_code 4 (some .int) 3 8 := ⟨(gWs_at 1359 (by decide +kernel) (by decide +kernel)), (gWs_at 1358 (by decide +kernel) (by decide +kernel)), (gWs_at 105 (by decide +kernel) (by decide +kernel)), (gWs_at 125 (by decide +kernel) (by decide +kernel)), ⟨by decide +kernel, by decide +kernel, by decide +kernel⟩, _, _, rfl⟩
theorem gm_Model_275 : gMk "TermDeskModel" 275 y_Model_value := Or.inl (gWs_at 1356 (by decide +kernel) (by decide +kernel))
theorem d_Model_value_0 : decode prog_13_method_53_code 0 = .ok (.aload_n 0, 1) := by decide +kernel
theorem d_Model_value_1 : decode prog_13_method_53_code 1 = .ok (.iconst 5, 1) := by decide +kernel
theorem d_Model_value_2 : decode prog_13_method_53_code 2 = .ok (.aload_n 0, 1) := by decide +kernel
theorem d_Model_value_3 : decode prog_13_method_53_code 3 = .ok (.getfield 59, 3) := by decide +kernel
theorem d_Model_value_6 : decode prog_13_method_53_code 6 = .ok (.bipush 20, 2) := by decide +kernel
theorem d_Model_value_8 : decode prog_13_method_53_code 8 = .ok (.iload_n 1, 1) := by decide +kernel
theorem d_Model_value_9 : decode prog_13_method_53_code 9 = .ok (.imul, 1) := by decide +kernel
theorem d_Model_value_10 : decode prog_13_method_53_code 10 = .ok (.invokevirtual 268, 3) := by decide +kernel
theorem d_Model_value_13 : decode prog_13_method_53_code 13 = .ok (.aload_n 0, 1) := by decide +kernel
theorem d_Model_value_14 : decode prog_13_method_53_code 14 = .ok (.iconst 5, 1) := by decide +kernel
theorem d_Model_value_15 : decode prog_13_method_53_code 15 = .ok (.iload_n 2, 1) := by decide +kernel
theorem d_Model_value_16 : decode prog_13_method_53_code 16 = .ok (.i2l, 1) := by decide +kernel
theorem d_Model_value_17 : decode prog_13_method_53_code 17 = .ok (.lconst 0, 1) := by decide +kernel
theorem d_Model_value_18 : decode prog_13_method_53_code 18 = .ok (.invokevirtual 104, 3) := by decide +kernel
theorem d_Model_value_21 : decode prog_13_method_53_code 21 = .ok (.aload_n 0, 1) := by decide +kernel
theorem d_Model_value_22 : decode prog_13_method_53_code 22 = .ok (.bipush 6, 2) := by decide +kernel
theorem d_Model_value_24 : decode prog_13_method_53_code 24 = .ok (.iconst 4, 1) := by decide +kernel
theorem d_Model_value_25 : decode prog_13_method_53_code 25 = .ok (.invokevirtual 112, 3) := by decide +kernel
theorem d_Model_value_28 : decode prog_13_method_53_code 28 = .ok (.aload_n 0, 1) := by decide +kernel
theorem d_Model_value_29 : decode prog_13_method_53_code 29 = .ok (.bipush 6, 2) := by decide +kernel
theorem d_Model_value_31 : decode prog_13_method_53_code 31 = .ok (.iload_n 3, 1) := by decide +kernel
theorem d_Model_value_32 : decode prog_13_method_53_code 32 = .ok (.i2l, 1) := by decide +kernel
theorem d_Model_value_33 : decode prog_13_method_53_code 33 = .ok (.lconst 0, 1) := by decide +kernel
theorem d_Model_value_34 : decode prog_13_method_53_code 34 = .ok (.invokevirtual 104, 3) := by decide +kernel
theorem d_Model_value_37 : decode prog_13_method_53_code 37 = .ok (.aload_n 0, 1) := by decide +kernel
theorem d_Model_value_38 : decode prog_13_method_53_code 38 = .ok (.iconst 5, 1) := by decide +kernel
theorem d_Model_value_39 : decode prog_13_method_53_code 39 = .ok (.bipush 6, 2) := by decide +kernel
theorem d_Model_value_41 : decode prog_13_method_53_code 41 = .ok (.invokevirtual 121, 3) := by decide +kernel
theorem d_Model_value_44 : decode prog_13_method_53_code 44 = .ok (.ifCond .ge 5, 3) := by decide +kernel
theorem d_Model_value_47 : decode prog_13_method_53_code 47 = .ok (.iload_n 3, 1) := by decide +kernel
theorem d_Model_value_48 : decode prog_13_method_53_code 48 = .ok (.ireturn, 1) := by decide +kernel
theorem d_Model_value_49 : decode prog_13_method_53_code 49 = .ok (.aload_n 0, 1) := by decide +kernel
theorem d_Model_value_50 : decode prog_13_method_53_code 50 = .ok (.iconst 5, 1) := by decide +kernel
theorem d_Model_value_51 : decode prog_13_method_53_code 51 = .ok (.iconst 4, 1) := by decide +kernel
theorem d_Model_value_52 : decode prog_13_method_53_code 52 = .ok (.invokevirtual 112, 3) := by decide +kernel
theorem d_Model_value_55 : decode prog_13_method_53_code 55 = .ok (.iconst 1, 1) := by decide +kernel
theorem d_Model_value_56 : decode prog_13_method_53_code 56 = .ok (.ireturn, 1) := by decide +kernel
noncomputable def M_Model_value (x1 : Int32) (x2 : Int32) (x3 : Int32) (u : gSt) : Option ((Int32 × gSt)) :=
  (M_Model_load (5 : Int32) 57 ((20 : Int32) * x1) u).bind fun q10 =>
  (M_Model_grow (5 : Int32) x2.toInt64 (0 : Int64) q10).bind fun q18 =>
  (M_Model_copyNumber (6 : Int32) (4 : Int32) q18).bind fun q25 =>
  (M_Model_grow (6 : Int32) x3.toInt64 (0 : Int64) q25).bind fun q34 =>
  (M_Model_order (5 : Int32) (6 : Int32) q34).bind fun q41 =>
  if (0 : Int32) ≤ q41.1 then
    ((M_Model_copyNumber (5 : Int32) (4 : Int32) q41.2).bind fun q52 =>
    some ((1 : Int32), q52))
  else
    (some (x3, q41.2))
set_option maxHeartbeats 4000000 in
set_option maxRecDepth 100000 in
theorem t_Model_value (C : gX "TermDeskModel" prog_13_method_53_code 4 (some .int) 2 50 R cells slots cy D ρ A p s m args meth c) {x1 : Int32} {x2 : Int32} {x3 : Int32} {u : gSt} {z : (Int32 × gSt)} (hM : M_Model_value x1 x2 x3 u = some z) (hR : gRtI p l e R s m args below meth c Q H0 cells slots cy D ρ A prog_13_method_53_code z.1 z.2) : gAt p l e R s m args below meth c Q H0 cells slots cy D ρ A 4 0 [(0, .ref (ρ 42)), (1, .int x1), (2, .int x2), (3, .int x3)] [] u := by
  intro ls H locs hl hP hS
  have hx := C.1
  have hb := C.2.1
  unfold M_Model_value at hM
  refine lv_aload_n hx hb d_Model_value_0 rfl (lv_at hl 0 rfl) ?_
  refine lv_iconst (v := (5 : Int32)) hx hb d_Model_value_1 (by decide) ?_
  refine lv_aload_n hx hb d_Model_value_2 rfl (lv_at hl 0 rfl) ?_
  refine g_getR (b := 57) C hP gl_DeskModel_59 rfl rfl rfl d_Model_value_3 ?_
  refine lv_bipush (v := (20 : Int32)) hx hb d_Model_value_6 (by decide) ?_
  refine lv_iload_n hx hb d_Model_value_8 rfl (lv_at hl 1 rfl) ?_
  refine lv_imul hx hb d_Model_value_9 ?_
  obtain ⟨q10, hq10, hM⟩ := gb_some hM
  refine g_backV (g_runV (As := [.int (5 : Int32), .ref (ρ 57), .int ((20 : Int32) * x1)]) C hP (c_Model_load C.2.2.2.2.2.2.2.2.1 hq10) gi_Model_load gm_Model_268 rfl rfl (by decide) (by decide) hl.1 rfl (Nat.le_of_ble_eq_true rfl) d_Model_value_10) hS (fun H locs hP hS => ?_)
  refine lv_aload_n hx hb d_Model_value_13 rfl (lv_at hl 0 rfl) ?_
  refine lv_iconst (v := (5 : Int32)) hx hb d_Model_value_14 (by decide) ?_
  refine lv_iload_n hx hb d_Model_value_15 rfl (lv_at hl 2 rfl) ?_
  refine lv_i2l (v := x2.toInt64) hx hb d_Model_value_16 rfl ?_
  refine lv_lconst (v := 0) hx hb d_Model_value_17 (by decide) ?_
  obtain ⟨q18, hq18, hM⟩ := gb_some hM
  refine g_backV (g_runV (As := [.int (5 : Int32), .long x2.toInt64, .long (0 : Int64)]) C hP (c_Model_grow C.2.2.2.2.2.2.2.2.1 hq18) gi_Model_grow gm_Model_104 rfl rfl (by decide) (by decide) hl.1 rfl (Nat.le_of_ble_eq_true rfl) d_Model_value_18) hS (fun H locs hP hS => ?_)
  refine lv_aload_n hx hb d_Model_value_21 rfl (lv_at hl 0 rfl) ?_
  refine lv_bipush (v := (6 : Int32)) hx hb d_Model_value_22 (by decide) ?_
  refine lv_iconst (v := (4 : Int32)) hx hb d_Model_value_24 (by decide) ?_
  obtain ⟨q25, hq25, hM⟩ := gb_some hM
  refine g_backV (g_runV (As := [.int (6 : Int32), .int (4 : Int32)]) C hP (c_Model_copyNumber C.2.2.2.2.2.2.2.2.1 hq25) gi_Model_copyNumber gm_Model_112 rfl rfl (by decide) (by decide) hl.1 rfl (Nat.le_of_ble_eq_true rfl) d_Model_value_25) hS (fun H locs hP hS => ?_)
  refine lv_aload_n hx hb d_Model_value_28 rfl (lv_at hl 0 rfl) ?_
  refine lv_bipush (v := (6 : Int32)) hx hb d_Model_value_29 (by decide) ?_
  refine lv_iload_n hx hb d_Model_value_31 rfl (lv_at hl 3 rfl) ?_
  refine lv_i2l (v := x3.toInt64) hx hb d_Model_value_32 rfl ?_
  refine lv_lconst (v := 0) hx hb d_Model_value_33 (by decide) ?_
  obtain ⟨q34, hq34, hM⟩ := gb_some hM
  refine g_backV (g_runV (As := [.int (6 : Int32), .long x3.toInt64, .long (0 : Int64)]) C hP (c_Model_grow C.2.2.2.2.2.2.2.2.1 hq34) gi_Model_grow gm_Model_104 rfl rfl (by decide) (by decide) hl.1 rfl (Nat.le_of_ble_eq_true rfl) d_Model_value_34) hS (fun H locs hP hS => ?_)
  refine lv_aload_n hx hb d_Model_value_37 rfl (lv_at hl 0 rfl) ?_
  refine lv_iconst (v := (5 : Int32)) hx hb d_Model_value_38 (by decide) ?_
  refine lv_bipush (v := (6 : Int32)) hx hb d_Model_value_39 (by decide) ?_
  obtain ⟨q41, hq41, hM⟩ := gb_some hM
  refine g_backI (g_runV (As := [.int (5 : Int32), .int (6 : Int32)]) C hP (c_Model_order C.2.2.2.2.2.2.2.2.1 hq41) gi_Model_order gm_Model_121 rfl rfl (by decide) (by decide) hl.1 rfl (Nat.le_of_ble_eq_true rfl) d_Model_value_41) hS (fun H locs hP hS => ?_)
  refine lv_if_ge (tgt := 49) hx hb d_Model_value_44 (by decide) (fun hc44 => ?_) (fun hc44 => ?_)
  · replace hM := gi_t hc44 hM
    refine lv_aload_n hx hb d_Model_value_49 rfl (lv_at hl 0 rfl) ?_
    refine lv_iconst (v := (5 : Int32)) hx hb d_Model_value_50 (by decide) ?_
    refine lv_iconst (v := (4 : Int32)) hx hb d_Model_value_51 (by decide) ?_
    obtain ⟨q52, hq52, hM⟩ := gb_some hM
    refine g_backV (g_runV (As := [.int (5 : Int32), .int (4 : Int32)]) C hP (c_Model_copyNumber C.2.2.2.2.2.2.2.2.1 hq52) gi_Model_copyNumber gm_Model_112 rfl rfl (by decide) (by decide) hl.1 rfl (Nat.le_of_ble_eq_true rfl) d_Model_value_52) hS (fun H locs hP hS => ?_)
    refine lv_iconst (v := (1 : Int32)) hx hb d_Model_value_55 (by decide) ?_
    obtain rfl := Option.some.inj hM
    exact hR _ ls H locs d_Model_value_56 hP hS
  · replace hM := gi_f hc44 hM
    refine lv_iload_n hx hb d_Model_value_47 rfl (lv_at hl 3 rfl) ?_
    obtain rfl := Option.some.inj hM
    exact hR _ ls H locs d_Model_value_48 hP hS
theorem c_Model_value {l : Launch} {cy : Nat → ClassId} {D : va_G} {ρ : Nat → Nat} {A : Nat → Prop} (hD : gD ρ A) {x1 : Int32} {x2 : Int32} {x3 : Int32} {u : gSt} {z : (Int32 × gSt)} (hM : M_Model_value x1 x2 x3 u = some z) : gCtI l y_Model_value prog_13_method_53_code 4 (some .int) 2 50 cy D ρ A [.ref (ρ 42), .int x1, .int x2, .int x3] u z.1 z.2 :=
  g_met (by decide) hD (Nat.le_of_ble_eq_true rfl) (fun p e s m below meth c ls X hl hP => t_Model_value X hM (fun pc ls H locs hd hP hS => g_iret X hP hS hd) ls _ [] hl hP va_S.rf)
end
section
variable {p : Program} {l : Launch} {e : Env} {R : Room} {s : State} {m : MethodId} {args : Array Value} {below : List Frame} {meth : Method} {c : Code} {Q : State → Prop} {H0 : Heap} {cells slots : Nat} {cy : Nat → ClassId} {D : va_G} {ρ : Nat → Nat} {A : Nat → Prop}
def y_Model_compare : MethodName := ⟨"TermDeskModel", "compare", "(II)I"⟩
theorem gi_Model_compare : gMi y_Model_compare prog_13_method_54_code 3 (some .int) 2 8 := ⟨(gWs_at 1371 (by decide +kernel) (by decide +kernel)), (gWs_at 1370 (by decide +kernel) (by decide +kernel)), (gWs_at 108 (by decide +kernel) (by decide +kernel)), (gWs_at 125 (by decide +kernel) (by decide +kernel)), ⟨by decide +kernel, by decide +kernel, by decide +kernel⟩, _, _, rfl⟩
theorem gm_Model_282 : gMk "TermDeskModel" 282 y_Model_compare := Or.inl (gWs_at 1368 (by decide +kernel) (by decide +kernel))
theorem d_Model_compare_0 : decode prog_13_method_54_code 0 = .ok (.aload_n 0, 1) := by decide +kernel
theorem d_Model_compare_1 : decode prog_13_method_54_code 1 = .ok (.iconst 5, 1) := by decide +kernel
theorem d_Model_compare_2 : decode prog_13_method_54_code 2 = .ok (.aload_n 0, 1) := by decide +kernel
theorem d_Model_compare_3 : decode prog_13_method_54_code 3 = .ok (.getfield 65, 3) := by decide +kernel
theorem d_Model_compare_6 : decode prog_13_method_54_code 6 = .ok (.bipush 20, 2) := by decide +kernel
theorem d_Model_compare_8 : decode prog_13_method_54_code 8 = .ok (.iload_n 1, 1) := by decide +kernel
theorem d_Model_compare_9 : decode prog_13_method_54_code 9 = .ok (.imul, 1) := by decide +kernel
theorem d_Model_compare_10 : decode prog_13_method_54_code 10 = .ok (.invokevirtual 268, 3) := by decide +kernel
theorem d_Model_compare_13 : decode prog_13_method_54_code 13 = .ok (.aload_n 0, 1) := by decide +kernel
theorem d_Model_compare_14 : decode prog_13_method_54_code 14 = .ok (.iconst 5, 1) := by decide +kernel
theorem d_Model_compare_15 : decode prog_13_method_54_code 15 = .ok (.aload_n 0, 1) := by decide +kernel
theorem d_Model_compare_16 : decode prog_13_method_54_code 16 = .ok (.getfield 68, 3) := by decide +kernel
theorem d_Model_compare_19 : decode prog_13_method_54_code 19 = .ok (.iload_n 2, 1) := by decide +kernel
theorem d_Model_compare_20 : decode prog_13_method_54_code 20 = .ok (.iaload, 1) := by decide +kernel
theorem d_Model_compare_21 : decode prog_13_method_54_code 21 = .ok (.i2l, 1) := by decide +kernel
theorem d_Model_compare_22 : decode prog_13_method_54_code 22 = .ok (.lconst 0, 1) := by decide +kernel
theorem d_Model_compare_23 : decode prog_13_method_54_code 23 = .ok (.invokevirtual 104, 3) := by decide +kernel
theorem d_Model_compare_26 : decode prog_13_method_54_code 26 = .ok (.aload_n 0, 1) := by decide +kernel
theorem d_Model_compare_27 : decode prog_13_method_54_code 27 = .ok (.bipush 6, 2) := by decide +kernel
theorem d_Model_compare_29 : decode prog_13_method_54_code 29 = .ok (.aload_n 0, 1) := by decide +kernel
theorem d_Model_compare_30 : decode prog_13_method_54_code 30 = .ok (.getfield 65, 3) := by decide +kernel
theorem d_Model_compare_33 : decode prog_13_method_54_code 33 = .ok (.bipush 20, 2) := by decide +kernel
theorem d_Model_compare_35 : decode prog_13_method_54_code 35 = .ok (.iload_n 2, 1) := by decide +kernel
theorem d_Model_compare_36 : decode prog_13_method_54_code 36 = .ok (.imul, 1) := by decide +kernel
theorem d_Model_compare_37 : decode prog_13_method_54_code 37 = .ok (.invokevirtual 268, 3) := by decide +kernel
theorem d_Model_compare_40 : decode prog_13_method_54_code 40 = .ok (.aload_n 0, 1) := by decide +kernel
theorem d_Model_compare_41 : decode prog_13_method_54_code 41 = .ok (.bipush 6, 2) := by decide +kernel
theorem d_Model_compare_43 : decode prog_13_method_54_code 43 = .ok (.aload_n 0, 1) := by decide +kernel
theorem d_Model_compare_44 : decode prog_13_method_54_code 44 = .ok (.getfield 68, 3) := by decide +kernel
theorem d_Model_compare_47 : decode prog_13_method_54_code 47 = .ok (.iload_n 1, 1) := by decide +kernel
theorem d_Model_compare_48 : decode prog_13_method_54_code 48 = .ok (.iaload, 1) := by decide +kernel
theorem d_Model_compare_49 : decode prog_13_method_54_code 49 = .ok (.i2l, 1) := by decide +kernel
theorem d_Model_compare_50 : decode prog_13_method_54_code 50 = .ok (.lconst 0, 1) := by decide +kernel
theorem d_Model_compare_51 : decode prog_13_method_54_code 51 = .ok (.invokevirtual 104, 3) := by decide +kernel
theorem d_Model_compare_54 : decode prog_13_method_54_code 54 = .ok (.aload_n 0, 1) := by decide +kernel
theorem d_Model_compare_55 : decode prog_13_method_54_code 55 = .ok (.iconst 5, 1) := by decide +kernel
theorem d_Model_compare_56 : decode prog_13_method_54_code 56 = .ok (.bipush 6, 2) := by decide +kernel
theorem d_Model_compare_58 : decode prog_13_method_54_code 58 = .ok (.invokevirtual 121, 3) := by decide +kernel
theorem d_Model_compare_61 : decode prog_13_method_54_code 61 = .ok (.ireturn, 1) := by decide +kernel
noncomputable def M_Model_compare (x1 : Int32) (x2 : Int32) (u : gSt) : Option ((Int32 × gSt)) :=
  (M_Model_load (5 : Int32) 59 ((20 : Int32) * x1) u).bind fun q10 =>
  gc (gIn x2 (gLen 60)) <| (M_Model_grow (5 : Int32) ((q10.2.2.1 60 (gIx x2)).toInt64) (0 : Int64) q10).bind fun q23 =>
  (M_Model_load (6 : Int32) 59 ((20 : Int32) * x2) q23).bind fun q37 =>
  gc (gIn x1 (gLen 60)) <| (M_Model_grow (6 : Int32) ((q37.2.2.1 60 (gIx x1)).toInt64) (0 : Int64) q37).bind fun q51 =>
  (M_Model_order (5 : Int32) (6 : Int32) q51).bind fun q58 =>
  some (q58.1, q58.2)
set_option maxHeartbeats 4000000 in
set_option maxRecDepth 100000 in
theorem t_Model_compare (C : gX "TermDeskModel" prog_13_method_54_code 3 (some .int) 2 50 R cells slots cy D ρ A p s m args meth c) {x1 : Int32} {x2 : Int32} {u : gSt} {z : (Int32 × gSt)} (hM : M_Model_compare x1 x2 u = some z) (hR : gRtI p l e R s m args below meth c Q H0 cells slots cy D ρ A prog_13_method_54_code z.1 z.2) : gAt p l e R s m args below meth c Q H0 cells slots cy D ρ A 3 0 [(0, .ref (ρ 42)), (1, .int x1), (2, .int x2)] [] u := by
  intro ls H locs hl hP hS
  have hx := C.1
  have hb := C.2.1
  unfold M_Model_compare at hM
  refine lv_aload_n hx hb d_Model_compare_0 rfl (lv_at hl 0 rfl) ?_
  refine lv_iconst (v := (5 : Int32)) hx hb d_Model_compare_1 (by decide) ?_
  refine lv_aload_n hx hb d_Model_compare_2 rfl (lv_at hl 0 rfl) ?_
  refine g_getR (b := 59) C hP gl_DeskModel_65 rfl rfl rfl d_Model_compare_3 ?_
  refine lv_bipush (v := (20 : Int32)) hx hb d_Model_compare_6 (by decide) ?_
  refine lv_iload_n hx hb d_Model_compare_8 rfl (lv_at hl 1 rfl) ?_
  refine lv_imul hx hb d_Model_compare_9 ?_
  obtain ⟨q10, hq10, hM⟩ := gb_some hM
  refine g_backV (g_runV (As := [.int (5 : Int32), .ref (ρ 59), .int ((20 : Int32) * x1)]) C hP (c_Model_load C.2.2.2.2.2.2.2.2.1 hq10) gi_Model_load gm_Model_268 rfl rfl (by decide) (by decide) hl.1 rfl (Nat.le_of_ble_eq_true rfl) d_Model_compare_10) hS (fun H locs hP hS => ?_)
  refine lv_aload_n hx hb d_Model_compare_13 rfl (lv_at hl 0 rfl) ?_
  refine lv_iconst (v := (5 : Int32)) hx hb d_Model_compare_14 (by decide) ?_
  refine lv_aload_n hx hb d_Model_compare_15 rfl (lv_at hl 0 rfl) ?_
  refine g_getR (b := 60) C hP gl_DeskModel_68 rfl rfl rfl d_Model_compare_16 ?_
  refine lv_iload_n hx hb d_Model_compare_19 rfl (lv_at hl 2 rfl) ?_
  obtain ⟨hi20, hM⟩ := gc_some hM
  refine g_iald C hP rfl hi20 d_Model_compare_20 ?_
  refine lv_i2l (v := (q10.2.2.1 60 (gIx x2)).toInt64) hx hb d_Model_compare_21 rfl ?_
  refine lv_lconst (v := 0) hx hb d_Model_compare_22 (by decide) ?_
  obtain ⟨q23, hq23, hM⟩ := gb_some hM
  refine g_backV (g_runV (As := [.int (5 : Int32), .long ((q10.2.2.1 60 (gIx x2)).toInt64), .long (0 : Int64)]) C hP (c_Model_grow C.2.2.2.2.2.2.2.2.1 hq23) gi_Model_grow gm_Model_104 rfl rfl (by decide) (by decide) hl.1 rfl (Nat.le_of_ble_eq_true rfl) d_Model_compare_23) hS (fun H locs hP hS => ?_)
  refine lv_aload_n hx hb d_Model_compare_26 rfl (lv_at hl 0 rfl) ?_
  refine lv_bipush (v := (6 : Int32)) hx hb d_Model_compare_27 (by decide) ?_
  refine lv_aload_n hx hb d_Model_compare_29 rfl (lv_at hl 0 rfl) ?_
  refine g_getR (b := 59) C hP gl_DeskModel_65 rfl rfl rfl d_Model_compare_30 ?_
  refine lv_bipush (v := (20 : Int32)) hx hb d_Model_compare_33 (by decide) ?_
  refine lv_iload_n hx hb d_Model_compare_35 rfl (lv_at hl 2 rfl) ?_
  refine lv_imul hx hb d_Model_compare_36 ?_
  obtain ⟨q37, hq37, hM⟩ := gb_some hM
  refine g_backV (g_runV (As := [.int (6 : Int32), .ref (ρ 59), .int ((20 : Int32) * x2)]) C hP (c_Model_load C.2.2.2.2.2.2.2.2.1 hq37) gi_Model_load gm_Model_268 rfl rfl (by decide) (by decide) hl.1 rfl (Nat.le_of_ble_eq_true rfl) d_Model_compare_37) hS (fun H locs hP hS => ?_)
  refine lv_aload_n hx hb d_Model_compare_40 rfl (lv_at hl 0 rfl) ?_
  refine lv_bipush (v := (6 : Int32)) hx hb d_Model_compare_41 (by decide) ?_
  refine lv_aload_n hx hb d_Model_compare_43 rfl (lv_at hl 0 rfl) ?_
  refine g_getR (b := 60) C hP gl_DeskModel_68 rfl rfl rfl d_Model_compare_44 ?_
  refine lv_iload_n hx hb d_Model_compare_47 rfl (lv_at hl 1 rfl) ?_
  obtain ⟨hi48, hM⟩ := gc_some hM
  refine g_iald C hP rfl hi48 d_Model_compare_48 ?_
  refine lv_i2l (v := (q37.2.2.1 60 (gIx x1)).toInt64) hx hb d_Model_compare_49 rfl ?_
  refine lv_lconst (v := 0) hx hb d_Model_compare_50 (by decide) ?_
  obtain ⟨q51, hq51, hM⟩ := gb_some hM
  refine g_backV (g_runV (As := [.int (6 : Int32), .long ((q37.2.2.1 60 (gIx x1)).toInt64), .long (0 : Int64)]) C hP (c_Model_grow C.2.2.2.2.2.2.2.2.1 hq51) gi_Model_grow gm_Model_104 rfl rfl (by decide) (by decide) hl.1 rfl (Nat.le_of_ble_eq_true rfl) d_Model_compare_51) hS (fun H locs hP hS => ?_)
  refine lv_aload_n hx hb d_Model_compare_54 rfl (lv_at hl 0 rfl) ?_
  refine lv_iconst (v := (5 : Int32)) hx hb d_Model_compare_55 (by decide) ?_
  refine lv_bipush (v := (6 : Int32)) hx hb d_Model_compare_56 (by decide) ?_
  obtain ⟨q58, hq58, hM⟩ := gb_some hM
  refine g_backI (g_runV (As := [.int (5 : Int32), .int (6 : Int32)]) C hP (c_Model_order C.2.2.2.2.2.2.2.2.1 hq58) gi_Model_order gm_Model_121 rfl rfl (by decide) (by decide) hl.1 rfl (Nat.le_of_ble_eq_true rfl) d_Model_compare_58) hS (fun H locs hP hS => ?_)
  obtain rfl := Option.some.inj hM
  exact hR _ ls H locs d_Model_compare_61 hP hS
theorem c_Model_compare {l : Launch} {cy : Nat → ClassId} {D : va_G} {ρ : Nat → Nat} {A : Nat → Prop} (hD : gD ρ A) {x1 : Int32} {x2 : Int32} {u : gSt} {z : (Int32 × gSt)} (hM : M_Model_compare x1 x2 u = some z) : gCtI l y_Model_compare prog_13_method_54_code 3 (some .int) 2 50 cy D ρ A [.ref (ρ 42), .int x1, .int x2] u z.1 z.2 :=
  g_met (by decide) hD (Nat.le_of_ble_eq_true rfl) (fun p e s m below meth c ls X hl hP => t_Model_compare X hM (fun pc ls H locs hd hP hS => g_iret X hP hS hd) ls _ [] hl hP va_S.rf)
end
section
variable {p : Program} {l : Launch} {e : Env} {R : Room} {s : State} {m : MethodId} {args : Array Value} {below : List Frame} {meth : Method} {c : Code} {Q : State → Prop} {H0 : Heap} {cells slots : Nat} {cy : Nat → ClassId} {D : va_G} {ρ : Nat → Nat} {A : Nat → Prop}
def y_Model_keep : MethodName := ⟨"TermDeskModel", "keep", "(III)V"⟩
theorem gi_Model_keep : gMi y_Model_keep prog_13_method_55_code 4 none 3 8 := ⟨(gWs_at 1367 (by decide +kernel) (by decide +kernel)), (gWs_at 1366 (by decide +kernel) (by decide +kernel)), (gWs_at 107 (by decide +kernel) (by decide +kernel)), (gWs_at 125 (by decide +kernel) (by decide +kernel)), ⟨by decide +kernel, by decide +kernel, by decide +kernel⟩, _, _, rfl⟩
theorem gm_Model_279 : gMk "TermDeskModel" 279 y_Model_keep := Or.inl (gWs_at 1364 (by decide +kernel) (by decide +kernel))
theorem d_Model_keep_0 : decode prog_13_method_55_code 0 = .ok (.aload_n 0, 1) := by decide +kernel
theorem d_Model_keep_1 : decode prog_13_method_55_code 1 = .ok (.iconst 5, 1) := by decide +kernel
theorem d_Model_keep_2 : decode prog_13_method_55_code 2 = .ok (.aload_n 0, 1) := by decide +kernel
theorem d_Model_keep_3 : decode prog_13_method_55_code 3 = .ok (.getfield 65, 3) := by decide +kernel
theorem d_Model_keep_6 : decode prog_13_method_55_code 6 = .ok (.bipush 20, 2) := by decide +kernel
theorem d_Model_keep_8 : decode prog_13_method_55_code 8 = .ok (.iconst 4, 1) := by decide +kernel
theorem d_Model_keep_9 : decode prog_13_method_55_code 9 = .ok (.iload_n 1, 1) := by decide +kernel
theorem d_Model_keep_10 : decode prog_13_method_55_code 10 = .ok (.imul, 1) := by decide +kernel
theorem d_Model_keep_11 : decode prog_13_method_55_code 11 = .ok (.iload_n 2, 1) := by decide +kernel
theorem d_Model_keep_12 : decode prog_13_method_55_code 12 = .ok (.iadd, 1) := by decide +kernel
theorem d_Model_keep_13 : decode prog_13_method_55_code 13 = .ok (.imul, 1) := by decide +kernel
theorem d_Model_keep_14 : decode prog_13_method_55_code 14 = .ok (.invokevirtual 272, 3) := by decide +kernel
theorem d_Model_keep_17 : decode prog_13_method_55_code 17 = .ok (.aload_n 0, 1) := by decide +kernel
theorem d_Model_keep_18 : decode prog_13_method_55_code 18 = .ok (.getfield 68, 3) := by decide +kernel
theorem d_Model_keep_21 : decode prog_13_method_55_code 21 = .ok (.iconst 4, 1) := by decide +kernel
theorem d_Model_keep_22 : decode prog_13_method_55_code 22 = .ok (.iload_n 1, 1) := by decide +kernel
theorem d_Model_keep_23 : decode prog_13_method_55_code 23 = .ok (.imul, 1) := by decide +kernel
theorem d_Model_keep_24 : decode prog_13_method_55_code 24 = .ok (.iload_n 2, 1) := by decide +kernel
theorem d_Model_keep_25 : decode prog_13_method_55_code 25 = .ok (.iadd, 1) := by decide +kernel
theorem d_Model_keep_26 : decode prog_13_method_55_code 26 = .ok (.iload_n 3, 1) := by decide +kernel
theorem d_Model_keep_27 : decode prog_13_method_55_code 27 = .ok (.iastore, 1) := by decide +kernel
theorem d_Model_keep_28 : decode prog_13_method_55_code 28 = .ok (.return_, 1) := by decide +kernel
noncomputable def M_Model_keep (x1 : Int32) (x2 : Int32) (x3 : Int32) (u : gSt) : Option (gSt) :=
  (M_Model_save (5 : Int32) 59 ((20 : Int32) * (((4 : Int32) * x1) + x2)) u).bind fun q14 =>
  gc (gIn (((4 : Int32) * x1) + x2) (gLen 60)) <| (some (gsA q14 60 (gIx (((4 : Int32) * x1) + x2)) x3)).bind fun u27 =>
  some u27
set_option maxHeartbeats 4000000 in
set_option maxRecDepth 100000 in
theorem t_Model_keep (C : gX "TermDeskModel" prog_13_method_55_code 4 none 2 46 R cells slots cy D ρ A p s m args meth c) {x1 : Int32} {x2 : Int32} {x3 : Int32} {u : gSt} {z : gSt} (hM : M_Model_keep x1 x2 x3 u = some z) (hR : gRtV p l e R s m args below meth c Q H0 cells slots cy D ρ A prog_13_method_55_code z) : gAt p l e R s m args below meth c Q H0 cells slots cy D ρ A 4 0 [(0, .ref (ρ 42)), (1, .int x1), (2, .int x2), (3, .int x3)] [] u := by
  intro ls H locs hl hP hS
  have hx := C.1
  have hb := C.2.1
  unfold M_Model_keep at hM
  refine lv_aload_n hx hb d_Model_keep_0 rfl (lv_at hl 0 rfl) ?_
  refine lv_iconst (v := (5 : Int32)) hx hb d_Model_keep_1 (by decide) ?_
  refine lv_aload_n hx hb d_Model_keep_2 rfl (lv_at hl 0 rfl) ?_
  refine g_getR (b := 59) C hP gl_DeskModel_65 rfl rfl rfl d_Model_keep_3 ?_
  refine lv_bipush (v := (20 : Int32)) hx hb d_Model_keep_6 (by decide) ?_
  refine lv_iconst (v := (4 : Int32)) hx hb d_Model_keep_8 (by decide) ?_
  refine lv_iload_n hx hb d_Model_keep_9 rfl (lv_at hl 1 rfl) ?_
  refine lv_imul hx hb d_Model_keep_10 ?_
  refine lv_iload_n hx hb d_Model_keep_11 rfl (lv_at hl 2 rfl) ?_
  refine lv_iadd hx hb d_Model_keep_12 ?_
  refine lv_imul hx hb d_Model_keep_13 ?_
  obtain ⟨q14, hq14, hM⟩ := gb_some hM
  refine g_backV (g_runV (As := [.int (5 : Int32), .ref (ρ 59), .int ((20 : Int32) * (((4 : Int32) * x1) + x2))]) C hP (c_Model_save C.2.2.2.2.2.2.2.2.1 hq14) gi_Model_save gm_Model_272 rfl rfl (by decide) (by decide) hl.1 rfl (Nat.le_of_ble_eq_true rfl) d_Model_keep_14) hS (fun H locs hP hS => ?_)
  refine lv_aload_n hx hb d_Model_keep_17 rfl (lv_at hl 0 rfl) ?_
  refine g_getR (b := 60) C hP gl_DeskModel_68 rfl rfl rfl d_Model_keep_18 ?_
  refine lv_iconst (v := (4 : Int32)) hx hb d_Model_keep_21 (by decide) ?_
  refine lv_iload_n hx hb d_Model_keep_22 rfl (lv_at hl 1 rfl) ?_
  refine lv_imul hx hb d_Model_keep_23 ?_
  refine lv_iload_n hx hb d_Model_keep_24 rfl (lv_at hl 2 rfl) ?_
  refine lv_iadd hx hb d_Model_keep_25 ?_
  refine lv_iload_n hx hb d_Model_keep_26 rfl (lv_at hl 3 rfl) ?_
  obtain ⟨hi27, hM⟩ := gc_some hM
  obtain ⟨u27, e27, hM⟩ := gb_some hM
  refine g_iast C hP hS rfl hi27 d_Model_keep_27 (fun H locs hP hS => ?_)
  rw [Option.some.inj e27] at hP
  obtain rfl := Option.some.inj hM
  exact hR _ ls H locs d_Model_keep_28 hP hS
theorem c_Model_keep {l : Launch} {cy : Nat → ClassId} {D : va_G} {ρ : Nat → Nat} {A : Nat → Prop} (hD : gD ρ A) {x1 : Int32} {x2 : Int32} {x3 : Int32} {u : gSt} {z : gSt} (hM : M_Model_keep x1 x2 x3 u = some z) : gCtV l y_Model_keep prog_13_method_55_code 4 none 2 46 cy D ρ A [.ref (ρ 42), .int x1, .int x2, .int x3] u z :=
  g_met (by decide) hD (Nat.le_of_ble_eq_true rfl) (fun p e s m below meth c ls X hl hP => t_Model_keep X hM (fun pc ls H locs hd hP hS => g_vret X hP hS hd) ls _ [] hl hP va_S.rf)
end
section
variable {p : Program} {l : Launch} {e : Env} {R : Room} {s : State} {m : MethodId} {args : Array Value} {below : List Frame} {meth : Method} {c : Code} {Q : State → Prop} {H0 : Heap} {cells slots : Nat} {cy : Nat → ClassId} {D : va_G} {ρ : Nat → Nat} {A : Nat → Prop}
def y_Model_copyValue : MethodName := ⟨"TermDeskModel", "copyValue", "(II)V"⟩
theorem gi_Model_copyValue : gMi y_Model_copyValue prog_13_method_56_code 4 none 2 8 := ⟨(gWs_at 1375 (by decide +kernel) (by decide +kernel)), (gWs_at 1374 (by decide +kernel) (by decide +kernel)), (gWs_at 109 (by decide +kernel) (by decide +kernel)), (gWs_at 125 (by decide +kernel) (by decide +kernel)), ⟨by decide +kernel, by decide +kernel, by decide +kernel⟩, _, _, rfl⟩
theorem gm_Model_285 : gMk "TermDeskModel" 285 y_Model_copyValue := Or.inl (gWs_at 1372 (by decide +kernel) (by decide +kernel))
theorem d_Model_copyValue_0 : decode prog_13_method_56_code 0 = .ok (.iconst 0, 1) := by decide +kernel
theorem d_Model_copyValue_1 : decode prog_13_method_56_code 1 = .ok (.istore_n 3, 1) := by decide +kernel
theorem d_Model_copyValue_2 : decode prog_13_method_56_code 2 = .ok (.iload_n 3, 1) := by decide +kernel
theorem d_Model_copyValue_3 : decode prog_13_method_56_code 3 = .ok (.bipush 20, 2) := by decide +kernel
theorem d_Model_copyValue_5 : decode prog_13_method_56_code 5 = .ok (.if_icmp .ge 31, 3) := by decide +kernel
theorem d_Model_copyValue_8 : decode prog_13_method_56_code 8 = .ok (.aload_n 0, 1) := by decide +kernel
theorem d_Model_copyValue_9 : decode prog_13_method_56_code 9 = .ok (.getfield 65, 3) := by decide +kernel
theorem d_Model_copyValue_12 : decode prog_13_method_56_code 12 = .ok (.bipush 20, 2) := by decide +kernel
theorem d_Model_copyValue_14 : decode prog_13_method_56_code 14 = .ok (.iload_n 1, 1) := by decide +kernel
theorem d_Model_copyValue_15 : decode prog_13_method_56_code 15 = .ok (.imul, 1) := by decide +kernel
theorem d_Model_copyValue_16 : decode prog_13_method_56_code 16 = .ok (.iload_n 3, 1) := by decide +kernel
theorem d_Model_copyValue_17 : decode prog_13_method_56_code 17 = .ok (.iadd, 1) := by decide +kernel
theorem d_Model_copyValue_18 : decode prog_13_method_56_code 18 = .ok (.aload_n 0, 1) := by decide +kernel
theorem d_Model_copyValue_19 : decode prog_13_method_56_code 19 = .ok (.getfield 65, 3) := by decide +kernel
theorem d_Model_copyValue_22 : decode prog_13_method_56_code 22 = .ok (.bipush 20, 2) := by decide +kernel
theorem d_Model_copyValue_24 : decode prog_13_method_56_code 24 = .ok (.iload_n 2, 1) := by decide +kernel
theorem d_Model_copyValue_25 : decode prog_13_method_56_code 25 = .ok (.imul, 1) := by decide +kernel
theorem d_Model_copyValue_26 : decode prog_13_method_56_code 26 = .ok (.iload_n 3, 1) := by decide +kernel
theorem d_Model_copyValue_27 : decode prog_13_method_56_code 27 = .ok (.iadd, 1) := by decide +kernel
theorem d_Model_copyValue_28 : decode prog_13_method_56_code 28 = .ok (.iaload, 1) := by decide +kernel
theorem d_Model_copyValue_29 : decode prog_13_method_56_code 29 = .ok (.iastore, 1) := by decide +kernel
theorem d_Model_copyValue_30 : decode prog_13_method_56_code 30 = .ok (.iinc 3 1, 3) := by decide +kernel
theorem d_Model_copyValue_33 : decode prog_13_method_56_code 33 = .ok (.goto (-31), 3) := by decide +kernel
theorem d_Model_copyValue_36 : decode prog_13_method_56_code 36 = .ok (.aload_n 0, 1) := by decide +kernel
theorem d_Model_copyValue_37 : decode prog_13_method_56_code 37 = .ok (.getfield 68, 3) := by decide +kernel
theorem d_Model_copyValue_40 : decode prog_13_method_56_code 40 = .ok (.iload_n 1, 1) := by decide +kernel
theorem d_Model_copyValue_41 : decode prog_13_method_56_code 41 = .ok (.aload_n 0, 1) := by decide +kernel
theorem d_Model_copyValue_42 : decode prog_13_method_56_code 42 = .ok (.getfield 68, 3) := by decide +kernel
theorem d_Model_copyValue_45 : decode prog_13_method_56_code 45 = .ok (.iload_n 2, 1) := by decide +kernel
theorem d_Model_copyValue_46 : decode prog_13_method_56_code 46 = .ok (.iaload, 1) := by decide +kernel
theorem d_Model_copyValue_47 : decode prog_13_method_56_code 47 = .ok (.iastore, 1) := by decide +kernel
theorem d_Model_copyValue_48 : decode prog_13_method_56_code 48 = .ok (.return_, 1) := by decide +kernel
noncomputable def M_Model_copyValue_b2 (x1 : Int32) (x2 : Int32) (x3 : Int32) (u : gSt) : Option ((Int32 × Int32 × Int32 × gSt) ⊕ ((Int32 × Int32 × gSt))) :=
  if (20 : Int32) ≤ x3 then
    (some (.inr (x1, x2, u)))
  else
    (gc (gIn (((20 : Int32) * x2) + x3) (gLen 59)) <| gc (gIn (((20 : Int32) * x1) + x3) (gLen 59)) <| (some (gsA u 59 (gIx (((20 : Int32) * x1) + x3)) (u.2.2.1 59 (gIx (((20 : Int32) * x2) + x3))))).bind fun u29 =>
    some (.inl (x1, x2, x3 + (1 : Int32), u29)))
set_option maxHeartbeats 4000000 in
set_option maxRecDepth 100000 in
theorem t_Model_copyValue_b2 (C : gX "TermDeskModel" prog_13_method_56_code 4 none 0 0 R cells slots cy D ρ A p s m args meth c) {x1 : Int32} {x2 : Int32} {x3 : Int32} {u : gSt} {z : (Int32 × Int32 × Int32 × gSt) ⊕ ((Int32 × Int32 × gSt))} (hM : M_Model_copyValue_b2 x1 x2 x3 u = some z) (hN : ∀ x1' x2' x3' u', z = .inl (x1', x2', x3', u') → gAt p l e R s m args below meth c Q H0 cells slots cy D ρ A 4 2 [(0, .ref (ρ 42)), (1, .int (x1')), (2, .int (x2')), (3, .int (x3'))] [] (u')) (hE0 : ∀ x1' x2' u', z = .inr (x1', x2', u') → gAt p l e R s m args below meth c Q H0 cells slots cy D ρ A 4 36 [(0, .ref (ρ 42)), (1, .int (x1')), (2, .int (x2'))] [] (u')) : gAt p l e R s m args below meth c Q H0 cells slots cy D ρ A 4 2 [(0, .ref (ρ 42)), (1, .int x1), (2, .int x2), (3, .int x3)] [] u := by
  intro ls H locs hl hP hS
  have hx := C.1
  have hb := C.2.1
  unfold M_Model_copyValue_b2 at hM
  refine lv_iload_n hx hb d_Model_copyValue_2 rfl (lv_at hl 3 rfl) ?_
  refine lv_bipush (v := (20 : Int32)) hx hb d_Model_copyValue_3 (by decide) ?_
  refine lv_icmp_ge (tgt := 36) hx hb d_Model_copyValue_5 (by decide) (fun hc5 => ?_) (fun hc5 => ?_)
  · replace hM := gi_t hc5 hM
    exact hE0 _ _ _ (Option.some.inj hM).symm ls H locs (lv_sub hl [0, 1, 2] rfl) hP hS
  · replace hM := gi_f hc5 hM
    refine lv_aload_n hx hb d_Model_copyValue_8 rfl (lv_at hl 0 rfl) ?_
    refine g_getR (b := 59) C hP gl_DeskModel_65 rfl rfl rfl d_Model_copyValue_9 ?_
    refine lv_bipush (v := (20 : Int32)) hx hb d_Model_copyValue_12 (by decide) ?_
    refine lv_iload_n hx hb d_Model_copyValue_14 rfl (lv_at hl 1 rfl) ?_
    refine lv_imul hx hb d_Model_copyValue_15 ?_
    refine lv_iload_n hx hb d_Model_copyValue_16 rfl (lv_at hl 3 rfl) ?_
    refine lv_iadd hx hb d_Model_copyValue_17 ?_
    refine lv_aload_n hx hb d_Model_copyValue_18 rfl (lv_at hl 0 rfl) ?_
    refine g_getR (b := 59) C hP gl_DeskModel_65 rfl rfl rfl d_Model_copyValue_19 ?_
    refine lv_bipush (v := (20 : Int32)) hx hb d_Model_copyValue_22 (by decide) ?_
    refine lv_iload_n hx hb d_Model_copyValue_24 rfl (lv_at hl 2 rfl) ?_
    refine lv_imul hx hb d_Model_copyValue_25 ?_
    refine lv_iload_n hx hb d_Model_copyValue_26 rfl (lv_at hl 3 rfl) ?_
    refine lv_iadd hx hb d_Model_copyValue_27 ?_
    obtain ⟨hi28, hM⟩ := gc_some hM
    refine g_iald C hP rfl hi28 d_Model_copyValue_28 ?_
    obtain ⟨hi29, hM⟩ := gc_some hM
    obtain ⟨u29, e29, hM⟩ := gb_some hM
    refine g_iast C hP hS rfl hi29 d_Model_copyValue_29 (fun H locs hP hS => ?_)
    rw [Option.some.inj e29] at hP
    refine lv_iinc (k := 3) (v := x3 + (1 : Int32)) (lv' := [(3, .int (x3 + (1 : Int32))), (0, .ref (ρ 42)), (1, .int x1), (2, .int x2)]) hx hb d_Model_copyValue_30 hl rfl (congrArg (fun z => x3 + z) (by decide)) (by decide) rfl (fun ls hl => ?_)
    refine lv_goto (tgt := 2) hx hb d_Model_copyValue_33 (by decide) ?_
    exact hN _ _ _ _ (Option.some.inj hM).symm ls H locs (lv_sub hl [1, 2, 3, 0] rfl) hP hS
noncomputable def M_Model_copyValue_L2 : (Int32 × Int32 × Int32 × gSt) → Option ((Int32 × Int32 × Int32 × gSt) ⊕ ((Int32 × Int32 × gSt))) := fun x => M_Model_copyValue_b2 x.1 x.2.1 x.2.2.1 x.2.2.2
theorem t_Model_copyValue_L2 (C : gX "TermDeskModel" prog_13_method_56_code 4 none 0 0 R cells slots cy D ρ A p s m args meth c) {x1 : Int32} {x2 : Int32} {x3 : Int32} {u : gSt} {yy : (Int32 × Int32 × gSt)} (hL : gLp M_Model_copyValue_L2 (x1, x2, x3, u) = some yy) (hE0 : (∀ y', yy = y' → gAt p l e R s m args below meth c Q H0 cells slots cy D ρ A 4 36 [(0, .ref (ρ 42)), (1, .int (y'.1)), (2, .int (y'.2.1))] [] (y'.2.2))) : gAt p l e R s m args below meth c Q H0 cells slots cy D ρ A 4 2 [(0, .ref (ρ 42)), (1, .int x1), (2, .int x2), (3, .int x3)] [] u :=
  g_loop (f := M_Model_copyValue_L2) (P := fun x => gAt p l e R s m args below meth c Q H0 cells slots cy D ρ A 4 2 [(0, .ref (ρ 42)), (1, .int x.1), (2, .int x.2.1), (3, .int x.2.2.1)] [] x.2.2.2) (E := fun yy => (∀ y', yy = y' → gAt p l e R s m args below meth c Q H0 cells slots cy D ρ A 4 36 [(0, .ref (ρ 42)), (1, .int (y'.1)), (2, .int (y'.2.1))] [] (y'.2.2))) (fun x z hf hN hE => t_Model_copyValue_b2 C hf (fun x1' x2' x3' u' h => hN (x1', x2', x3', u') h) (fun x1' x2' u' h => (hE _ h) (x1', x2', u') rfl)) hL hE0
noncomputable def M_Model_copyValue (x1 : Int32) (x2 : Int32) (u : gSt) : Option (gSt) :=
  (gLp M_Model_copyValue_L2 (x1, x2, (0 : Int32), u)).bind fun y2 =>
  gc (gIn y2.2.1 (gLen 60)) <| gc (gIn y2.1 (gLen 60)) <| (some (gsA y2.2.2 60 (gIx y2.1) (y2.2.2.2.2.1 60 (gIx y2.2.1)))).bind fun u47 =>
  some u47
set_option maxHeartbeats 4000000 in
set_option maxRecDepth 100000 in
theorem t_Model_copyValue (C : gX "TermDeskModel" prog_13_method_56_code 4 none 0 0 R cells slots cy D ρ A p s m args meth c) {x1 : Int32} {x2 : Int32} {u : gSt} {z : gSt} (hM : M_Model_copyValue x1 x2 u = some z) (hR : gRtV p l e R s m args below meth c Q H0 cells slots cy D ρ A prog_13_method_56_code z) : gAt p l e R s m args below meth c Q H0 cells slots cy D ρ A 4 0 [(0, .ref (ρ 42)), (1, .int x1), (2, .int x2)] [] u := by
  intro ls H locs hl hP hS
  have hx := C.1
  have hb := C.2.1
  unfold M_Model_copyValue at hM
  refine lv_iconst (v := (0 : Int32)) hx hb d_Model_copyValue_0 (by decide) ?_
  refine lv_istore_n (lv' := [(3, .int (0 : Int32)), (0, .ref (ρ 42)), (1, .int x1), (2, .int x2)]) hx hb d_Model_copyValue_1 rfl hl (by decide) rfl (fun ls hl => ?_)
  obtain ⟨y2, hL2, hM⟩ := gb_some hM
  refine t_Model_copyValue_L2 C hL2 (fun y2_0 hy => ?_) ls H locs (lv_sub hl [1, 2, 3, 0] rfl) hP hS
  · subst hy
    intro ls H locs hl hP hS
    refine lv_aload_n hx hb d_Model_copyValue_36 rfl (lv_at hl 0 rfl) ?_
    refine g_getR (b := 60) C hP gl_DeskModel_68 rfl rfl rfl d_Model_copyValue_37 ?_
    refine lv_iload_n hx hb d_Model_copyValue_40 rfl (lv_at hl 1 rfl) ?_
    refine lv_aload_n hx hb d_Model_copyValue_41 rfl (lv_at hl 0 rfl) ?_
    refine g_getR (b := 60) C hP gl_DeskModel_68 rfl rfl rfl d_Model_copyValue_42 ?_
    refine lv_iload_n hx hb d_Model_copyValue_45 rfl (lv_at hl 2 rfl) ?_
    obtain ⟨hi46, hM⟩ := gc_some hM
    refine g_iald C hP rfl hi46 d_Model_copyValue_46 ?_
    obtain ⟨hi47, hM⟩ := gc_some hM
    obtain ⟨u47, e47, hM⟩ := gb_some hM
    refine g_iast C hP hS rfl hi47 d_Model_copyValue_47 (fun H locs hP hS => ?_)
    rw [Option.some.inj e47] at hP
    obtain rfl := Option.some.inj hM
    exact hR _ ls H locs d_Model_copyValue_48 hP hS
theorem c_Model_copyValue {l : Launch} {cy : Nat → ClassId} {D : va_G} {ρ : Nat → Nat} {A : Nat → Prop} (hD : gD ρ A) {x1 : Int32} {x2 : Int32} {u : gSt} {z : gSt} (hM : M_Model_copyValue x1 x2 u = some z) : gCtV l y_Model_copyValue prog_13_method_56_code 4 none 0 0 cy D ρ A [.ref (ρ 42), .int x1, .int x2] u z :=
  g_met (by decide) hD (Nat.le_of_ble_eq_true rfl) (fun p e s m below meth c ls X hl hP => t_Model_copyValue X hM (fun pc ls H locs hd hP hS => g_vret X hP hS hd) ls _ [] hl hP va_S.rf)
end
section
variable {p : Program} {l : Launch} {e : Env} {R : Room} {s : State} {m : MethodId} {args : Array Value} {below : List Frame} {meth : Method} {c : Code} {Q : State → Prop} {H0 : Heap} {cells slots : Nat} {cy : Nat → ClassId} {D : va_G} {ρ : Nat → Nat} {A : Nat → Prop}
def y_Model_rate : MethodName := ⟨"TermDeskModel", "rate", "()V"⟩
theorem gi_Model_rate : gMi y_Model_rate prog_13_method_57_code 2 none 0 8 := ⟨(gWs_at 1355 (by decide +kernel) (by decide +kernel)), (gWs_at 1354 (by decide +kernel) (by decide +kernel)), (gWs_at 104 (by decide +kernel) (by decide +kernel)), (gWs_at 125 (by decide +kernel) (by decide +kernel)), ⟨by decide +kernel, by decide +kernel, by decide +kernel⟩, _, _, rfl⟩
theorem gm_Model_291 : gMk "TermDeskModel" 291 y_Model_rate := Or.inl (gWs_at 1352 (by decide +kernel) (by decide +kernel))
theorem d_Model_rate_0 : decode prog_13_method_57_code 0 = .ok (.iconst 0, 1) := by decide +kernel
theorem d_Model_rate_1 : decode prog_13_method_57_code 1 = .ok (.istore_n 1, 1) := by decide +kernel
theorem d_Model_rate_2 : decode prog_13_method_57_code 2 = .ok (.iload_n 1, 1) := by decide +kernel
theorem d_Model_rate_3 : decode prog_13_method_57_code 3 = .ok (.aload_n 0, 1) := by decide +kernel
theorem d_Model_rate_4 : decode prog_13_method_57_code 4 = .ok (.getfield 262, 3) := by decide +kernel
theorem d_Model_rate_7 : decode prog_13_method_57_code 7 = .ok (.if_icmp .ge 109, 3) := by decide +kernel
theorem d_Model_rate_10 : decode prog_13_method_57_code 10 = .ok (.aload_n 0, 1) := by decide +kernel
theorem d_Model_rate_11 : decode prog_13_method_57_code 11 = .ok (.iload_n 1, 1) := by decide +kernel
theorem d_Model_rate_12 : decode prog_13_method_57_code 12 = .ok (.iconst 0, 1) := by decide +kernel
theorem d_Model_rate_13 : decode prog_13_method_57_code 13 = .ok (.aload_n 0, 1) := by decide +kernel
theorem d_Model_rate_14 : decode prog_13_method_57_code 14 = .ok (.iload_n 1, 1) := by decide +kernel
theorem d_Model_rate_15 : decode prog_13_method_57_code 15 = .ok (.iconst 1, 1) := by decide +kernel
theorem d_Model_rate_16 : decode prog_13_method_57_code 16 = .ok (.iconst 1, 1) := by decide +kernel
theorem d_Model_rate_17 : decode prog_13_method_57_code 17 = .ok (.invokevirtual 275, 3) := by decide +kernel
theorem d_Model_rate_20 : decode prog_13_method_57_code 20 = .ok (.invokevirtual 279, 3) := by decide +kernel
theorem d_Model_rate_23 : decode prog_13_method_57_code 23 = .ok (.aload_n 0, 1) := by decide +kernel
theorem d_Model_rate_24 : decode prog_13_method_57_code 24 = .ok (.iload_n 1, 1) := by decide +kernel
theorem d_Model_rate_25 : decode prog_13_method_57_code 25 = .ok (.iconst 1, 1) := by decide +kernel
theorem d_Model_rate_26 : decode prog_13_method_57_code 26 = .ok (.aload_n 0, 1) := by decide +kernel
theorem d_Model_rate_27 : decode prog_13_method_57_code 27 = .ok (.iload_n 1, 1) := by decide +kernel
theorem d_Model_rate_28 : decode prog_13_method_57_code 28 = .ok (.aload_n 0, 1) := by decide +kernel
theorem d_Model_rate_29 : decode prog_13_method_57_code 29 = .ok (.getfield 262, 3) := by decide +kernel
theorem d_Model_rate_32 : decode prog_13_method_57_code 32 = .ok (.iconst 1, 1) := by decide +kernel
theorem d_Model_rate_33 : decode prog_13_method_57_code 33 = .ok (.invokevirtual 275, 3) := by decide +kernel
theorem d_Model_rate_36 : decode prog_13_method_57_code 36 = .ok (.invokevirtual 279, 3) := by decide +kernel
theorem d_Model_rate_39 : decode prog_13_method_57_code 39 = .ok (.aload_n 0, 1) := by decide +kernel
theorem d_Model_rate_40 : decode prog_13_method_57_code 40 = .ok (.iload_n 1, 1) := by decide +kernel
theorem d_Model_rate_41 : decode prog_13_method_57_code 41 = .ok (.iconst 2, 1) := by decide +kernel
theorem d_Model_rate_42 : decode prog_13_method_57_code 42 = .ok (.aload_n 0, 1) := by decide +kernel
theorem d_Model_rate_43 : decode prog_13_method_57_code 43 = .ok (.iload_n 1, 1) := by decide +kernel
theorem d_Model_rate_44 : decode prog_13_method_57_code 44 = .ok (.aload_n 0, 1) := by decide +kernel
theorem d_Model_rate_45 : decode prog_13_method_57_code 45 = .ok (.getfield 262, 3) := by decide +kernel
theorem d_Model_rate_48 : decode prog_13_method_57_code 48 = .ok (.iload_n 1, 1) := by decide +kernel
theorem d_Model_rate_49 : decode prog_13_method_57_code 49 = .ok (.isub, 1) := by decide +kernel
theorem d_Model_rate_50 : decode prog_13_method_57_code 50 = .ok (.iconst 1, 1) := by decide +kernel
theorem d_Model_rate_51 : decode prog_13_method_57_code 51 = .ok (.invokevirtual 275, 3) := by decide +kernel
theorem d_Model_rate_54 : decode prog_13_method_57_code 54 = .ok (.invokevirtual 279, 3) := by decide +kernel
theorem d_Model_rate_57 : decode prog_13_method_57_code 57 = .ok (.iload_n 1, 1) := by decide +kernel
theorem d_Model_rate_58 : decode prog_13_method_57_code 58 = .ok (.ifCond .le 34, 3) := by decide +kernel
theorem d_Model_rate_61 : decode prog_13_method_57_code 61 = .ok (.aload_n 0, 1) := by decide +kernel
theorem d_Model_rate_62 : decode prog_13_method_57_code 62 = .ok (.iconst 4, 1) := by decide +kernel
theorem d_Model_rate_63 : decode prog_13_method_57_code 63 = .ok (.iload_n 1, 1) := by decide +kernel
theorem d_Model_rate_64 : decode prog_13_method_57_code 64 = .ok (.imul, 1) := by decide +kernel
theorem d_Model_rate_65 : decode prog_13_method_57_code 65 = .ok (.iconst 2, 1) := by decide +kernel
theorem d_Model_rate_66 : decode prog_13_method_57_code 66 = .ok (.iadd, 1) := by decide +kernel
theorem d_Model_rate_67 : decode prog_13_method_57_code 67 = .ok (.iconst 4, 1) := by decide +kernel
theorem d_Model_rate_68 : decode prog_13_method_57_code 68 = .ok (.iload_n 1, 1) := by decide +kernel
theorem d_Model_rate_69 : decode prog_13_method_57_code 69 = .ok (.imul, 1) := by decide +kernel
theorem d_Model_rate_70 : decode prog_13_method_57_code 70 = .ok (.iconst 2, 1) := by decide +kernel
theorem d_Model_rate_71 : decode prog_13_method_57_code 71 = .ok (.isub, 1) := by decide +kernel
theorem d_Model_rate_72 : decode prog_13_method_57_code 72 = .ok (.invokevirtual 282, 3) := by decide +kernel
theorem d_Model_rate_75 : decode prog_13_method_57_code 75 = .ok (.ifCond .ge 17, 3) := by decide +kernel
theorem d_Model_rate_78 : decode prog_13_method_57_code 78 = .ok (.aload_n 0, 1) := by decide +kernel
theorem d_Model_rate_79 : decode prog_13_method_57_code 79 = .ok (.iconst 4, 1) := by decide +kernel
theorem d_Model_rate_80 : decode prog_13_method_57_code 80 = .ok (.iload_n 1, 1) := by decide +kernel
theorem d_Model_rate_81 : decode prog_13_method_57_code 81 = .ok (.imul, 1) := by decide +kernel
theorem d_Model_rate_82 : decode prog_13_method_57_code 82 = .ok (.iconst 2, 1) := by decide +kernel
theorem d_Model_rate_83 : decode prog_13_method_57_code 83 = .ok (.iadd, 1) := by decide +kernel
theorem d_Model_rate_84 : decode prog_13_method_57_code 84 = .ok (.iconst 4, 1) := by decide +kernel
theorem d_Model_rate_85 : decode prog_13_method_57_code 85 = .ok (.iload_n 1, 1) := by decide +kernel
theorem d_Model_rate_86 : decode prog_13_method_57_code 86 = .ok (.imul, 1) := by decide +kernel
theorem d_Model_rate_87 : decode prog_13_method_57_code 87 = .ok (.iconst 2, 1) := by decide +kernel
theorem d_Model_rate_88 : decode prog_13_method_57_code 88 = .ok (.isub, 1) := by decide +kernel
theorem d_Model_rate_89 : decode prog_13_method_57_code 89 = .ok (.invokevirtual 285, 3) := by decide +kernel
theorem d_Model_rate_92 : decode prog_13_method_57_code 92 = .ok (.aload_n 0, 1) := by decide +kernel
theorem d_Model_rate_93 : decode prog_13_method_57_code 93 = .ok (.iload_n 1, 1) := by decide +kernel
theorem d_Model_rate_94 : decode prog_13_method_57_code 94 = .ok (.iconst 3, 1) := by decide +kernel
theorem d_Model_rate_95 : decode prog_13_method_57_code 95 = .ok (.aload_n 0, 1) := by decide +kernel
theorem d_Model_rate_96 : decode prog_13_method_57_code 96 = .ok (.iload_n 1, 1) := by decide +kernel
theorem d_Model_rate_97 : decode prog_13_method_57_code 97 = .ok (.aload_n 0, 1) := by decide +kernel
theorem d_Model_rate_98 : decode prog_13_method_57_code 98 = .ok (.getfield 262, 3) := by decide +kernel
theorem d_Model_rate_101 : decode prog_13_method_57_code 101 = .ok (.iload_n 1, 1) := by decide +kernel
theorem d_Model_rate_102 : decode prog_13_method_57_code 102 = .ok (.iconst 1, 1) := by decide +kernel
theorem d_Model_rate_103 : decode prog_13_method_57_code 103 = .ok (.iadd, 1) := by decide +kernel
theorem d_Model_rate_104 : decode prog_13_method_57_code 104 = .ok (.invokevirtual 275, 3) := by decide +kernel
theorem d_Model_rate_107 : decode prog_13_method_57_code 107 = .ok (.invokevirtual 279, 3) := by decide +kernel
theorem d_Model_rate_110 : decode prog_13_method_57_code 110 = .ok (.iinc 1 1, 3) := by decide +kernel
theorem d_Model_rate_113 : decode prog_13_method_57_code 113 = .ok (.goto (-111), 3) := by decide +kernel
theorem d_Model_rate_116 : decode prog_13_method_57_code 116 = .ok (.aload_n 0, 1) := by decide +kernel
theorem d_Model_rate_117 : decode prog_13_method_57_code 117 = .ok (.getfield 262, 3) := by decide +kernel
theorem d_Model_rate_120 : decode prog_13_method_57_code 120 = .ok (.iconst 2, 1) := by decide +kernel
theorem d_Model_rate_121 : decode prog_13_method_57_code 121 = .ok (.isub, 1) := by decide +kernel
theorem d_Model_rate_122 : decode prog_13_method_57_code 122 = .ok (.istore_n 1, 1) := by decide +kernel
theorem d_Model_rate_123 : decode prog_13_method_57_code 123 = .ok (.iload_n 1, 1) := by decide +kernel
theorem d_Model_rate_124 : decode prog_13_method_57_code 124 = .ok (.ifCond .lt 42, 3) := by decide +kernel
theorem d_Model_rate_127 : decode prog_13_method_57_code 127 = .ok (.aload_n 0, 1) := by decide +kernel
theorem d_Model_rate_128 : decode prog_13_method_57_code 128 = .ok (.iconst 4, 1) := by decide +kernel
theorem d_Model_rate_129 : decode prog_13_method_57_code 129 = .ok (.iload_n 1, 1) := by decide +kernel
theorem d_Model_rate_130 : decode prog_13_method_57_code 130 = .ok (.imul, 1) := by decide +kernel
theorem d_Model_rate_131 : decode prog_13_method_57_code 131 = .ok (.bipush 7, 2) := by decide +kernel
theorem d_Model_rate_133 : decode prog_13_method_57_code 133 = .ok (.iadd, 1) := by decide +kernel
theorem d_Model_rate_134 : decode prog_13_method_57_code 134 = .ok (.iconst 4, 1) := by decide +kernel
theorem d_Model_rate_135 : decode prog_13_method_57_code 135 = .ok (.iload_n 1, 1) := by decide +kernel
theorem d_Model_rate_136 : decode prog_13_method_57_code 136 = .ok (.imul, 1) := by decide +kernel
theorem d_Model_rate_137 : decode prog_13_method_57_code 137 = .ok (.iconst 3, 1) := by decide +kernel
theorem d_Model_rate_138 : decode prog_13_method_57_code 138 = .ok (.iadd, 1) := by decide +kernel
theorem d_Model_rate_139 : decode prog_13_method_57_code 139 = .ok (.invokevirtual 282, 3) := by decide +kernel
theorem d_Model_rate_142 : decode prog_13_method_57_code 142 = .ok (.ifCond .ge 18, 3) := by decide +kernel
theorem d_Model_rate_145 : decode prog_13_method_57_code 145 = .ok (.aload_n 0, 1) := by decide +kernel
theorem d_Model_rate_146 : decode prog_13_method_57_code 146 = .ok (.iconst 4, 1) := by decide +kernel
theorem d_Model_rate_147 : decode prog_13_method_57_code 147 = .ok (.iload_n 1, 1) := by decide +kernel
theorem d_Model_rate_148 : decode prog_13_method_57_code 148 = .ok (.imul, 1) := by decide +kernel
theorem d_Model_rate_149 : decode prog_13_method_57_code 149 = .ok (.iconst 3, 1) := by decide +kernel
theorem d_Model_rate_150 : decode prog_13_method_57_code 150 = .ok (.iadd, 1) := by decide +kernel
theorem d_Model_rate_151 : decode prog_13_method_57_code 151 = .ok (.iconst 4, 1) := by decide +kernel
theorem d_Model_rate_152 : decode prog_13_method_57_code 152 = .ok (.iload_n 1, 1) := by decide +kernel
theorem d_Model_rate_153 : decode prog_13_method_57_code 153 = .ok (.imul, 1) := by decide +kernel
theorem d_Model_rate_154 : decode prog_13_method_57_code 154 = .ok (.bipush 7, 2) := by decide +kernel
theorem d_Model_rate_156 : decode prog_13_method_57_code 156 = .ok (.iadd, 1) := by decide +kernel
theorem d_Model_rate_157 : decode prog_13_method_57_code 157 = .ok (.invokevirtual 285, 3) := by decide +kernel
theorem d_Model_rate_160 : decode prog_13_method_57_code 160 = .ok (.iinc 1 (-1), 3) := by decide +kernel
theorem d_Model_rate_163 : decode prog_13_method_57_code 163 = .ok (.goto (-40), 3) := by decide +kernel
theorem d_Model_rate_166 : decode prog_13_method_57_code 166 = .ok (.return_, 1) := by decide +kernel
noncomputable def M_Model_rate_b92 (x1 : Int32) (u : gSt) : Option ((Int32 × gSt) ⊕ ((gSt))) :=
  (M_Model_value x1 (u.1 42 31) (x1 + (1 : Int32)) u).bind fun q104 =>
  (M_Model_keep x1 (3 : Int32) q104.1 q104.2).bind fun q107 =>
  some (.inl (x1 + (1 : Int32), q107))
set_option maxHeartbeats 4000000 in
set_option maxRecDepth 100000 in
theorem t_Model_rate_b92 (C : gX "TermDeskModel" prog_13_method_57_code 2 none 3 73 R cells slots cy D ρ A p s m args meth c) {x1 : Int32} {u : gSt} {z : (Int32 × gSt) ⊕ ((gSt))} (hM : M_Model_rate_b92 x1 u = some z) (hN : ∀ x1' u', z = .inl (x1', u') → gAt p l e R s m args below meth c Q H0 cells slots cy D ρ A 2 2 [(0, .ref (ρ 42)), (1, .int (x1'))] [] (u')) (hE0 : ∀ u', z = .inr u' → gAt p l e R s m args below meth c Q H0 cells slots cy D ρ A 2 116 [(0, .ref (ρ 42))] [] (u')) : gAt p l e R s m args below meth c Q H0 cells slots cy D ρ A 2 92 [(0, .ref (ρ 42)), (1, .int x1)] [] u := by
  intro ls H locs hl hP hS
  have hx := C.1
  have hb := C.2.1
  unfold M_Model_rate_b92 at hM
  refine lv_aload_n hx hb d_Model_rate_92 rfl (lv_at hl 0 rfl) ?_
  refine lv_iload_n hx hb d_Model_rate_93 rfl (lv_at hl 1 rfl) ?_
  refine lv_iconst (v := (3 : Int32)) hx hb d_Model_rate_94 (by decide) ?_
  refine lv_aload_n hx hb d_Model_rate_95 rfl (lv_at hl 0 rfl) ?_
  refine lv_iload_n hx hb d_Model_rate_96 rfl (lv_at hl 1 rfl) ?_
  refine lv_aload_n hx hb d_Model_rate_97 rfl (lv_at hl 0 rfl) ?_
  refine g_getI C hP gl_DeskModel_262 rfl rfl d_Model_rate_98 ?_
  refine lv_iload_n hx hb d_Model_rate_101 rfl (lv_at hl 1 rfl) ?_
  refine lv_iconst (v := (1 : Int32)) hx hb d_Model_rate_102 (by decide) ?_
  refine lv_iadd hx hb d_Model_rate_103 ?_
  obtain ⟨q104, hq104, hM⟩ := gb_some hM
  refine g_backI (g_runV (As := [.int x1, .int (u.1 42 31), .int (x1 + (1 : Int32))]) C hP (c_Model_value C.2.2.2.2.2.2.2.2.1 hq104) gi_Model_value gm_Model_275 rfl rfl (by decide) (by decide) hl.1 rfl (Nat.le_of_ble_eq_true rfl) d_Model_rate_104) hS (fun H locs hP hS => ?_)
  obtain ⟨q107, hq107, hM⟩ := gb_some hM
  refine g_backV (g_runV (As := [.int x1, .int (3 : Int32), .int q104.1]) C hP (c_Model_keep C.2.2.2.2.2.2.2.2.1 hq107) gi_Model_keep gm_Model_279 rfl rfl (by decide) (by decide) hl.1 rfl (Nat.le_of_ble_eq_true rfl) d_Model_rate_107) hS (fun H locs hP hS => ?_)
  refine lv_iinc (k := 1) (v := x1 + (1 : Int32)) (lv' := [(1, .int (x1 + (1 : Int32))), (0, .ref (ρ 42))]) hx hb d_Model_rate_110 hl rfl (congrArg (fun z => x1 + z) (by decide)) (by decide) rfl (fun ls hl => ?_)
  refine lv_goto (tgt := 2) hx hb d_Model_rate_113 (by decide) ?_
  exact hN _ _ (Option.some.inj hM).symm ls H locs (lv_sub hl [1, 0] rfl) hP hS
noncomputable def M_Model_rate_b2 (x1 : Int32) (u : gSt) : Option ((Int32 × gSt) ⊕ ((gSt))) :=
  if (u.1 42 31) ≤ x1 then
    (some (.inr u))
  else
    ((M_Model_value x1 (1 : Int32) (1 : Int32) u).bind fun q17 =>
    (M_Model_keep x1 (0 : Int32) q17.1 q17.2).bind fun q20 =>
    (M_Model_value x1 (q20.1 42 31) (1 : Int32) q20).bind fun q33 =>
    (M_Model_keep x1 (1 : Int32) q33.1 q33.2).bind fun q36 =>
    (M_Model_value x1 ((q36.1 42 31) - x1) (1 : Int32) q36).bind fun q51 =>
    (M_Model_keep x1 (2 : Int32) q51.1 q51.2).bind fun q54 =>
    if x1 ≤ (0 : Int32) then
      (M_Model_rate_b92 x1 q54)
    else
      ((M_Model_compare (((4 : Int32) * x1) + (2 : Int32)) (((4 : Int32) * x1) - (2 : Int32)) q54).bind fun q72 =>
      if (0 : Int32) ≤ q72.1 then
        (M_Model_rate_b92 x1 q72.2)
      else
        ((M_Model_copyValue (((4 : Int32) * x1) + (2 : Int32)) (((4 : Int32) * x1) - (2 : Int32)) q72.2).bind fun q89 =>
        M_Model_rate_b92 x1 q89)))
set_option maxHeartbeats 4000000 in
set_option maxRecDepth 100000 in
theorem t_Model_rate_b2 (C : gX "TermDeskModel" prog_13_method_57_code 2 none 3 73 R cells slots cy D ρ A p s m args meth c) {x1 : Int32} {u : gSt} {z : (Int32 × gSt) ⊕ ((gSt))} (hM : M_Model_rate_b2 x1 u = some z) (hN : ∀ x1' u', z = .inl (x1', u') → gAt p l e R s m args below meth c Q H0 cells slots cy D ρ A 2 2 [(0, .ref (ρ 42)), (1, .int (x1'))] [] (u')) (hE0 : ∀ u', z = .inr u' → gAt p l e R s m args below meth c Q H0 cells slots cy D ρ A 2 116 [(0, .ref (ρ 42))] [] (u')) : gAt p l e R s m args below meth c Q H0 cells slots cy D ρ A 2 2 [(0, .ref (ρ 42)), (1, .int x1)] [] u := by
  intro ls H locs hl hP hS
  have hx := C.1
  have hb := C.2.1
  unfold M_Model_rate_b2 at hM
  refine lv_iload_n hx hb d_Model_rate_2 rfl (lv_at hl 1 rfl) ?_
  refine lv_aload_n hx hb d_Model_rate_3 rfl (lv_at hl 0 rfl) ?_
  refine g_getI C hP gl_DeskModel_262 rfl rfl d_Model_rate_4 ?_
  refine lv_icmp_ge (tgt := 116) hx hb d_Model_rate_7 (by decide) (fun hc7 => ?_) (fun hc7 => ?_)
  · replace hM := gi_t hc7 hM
    exact hE0 _ (Option.some.inj hM).symm ls H locs (lv_sub hl [0] rfl) hP hS
  · replace hM := gi_f hc7 hM
    refine lv_aload_n hx hb d_Model_rate_10 rfl (lv_at hl 0 rfl) ?_
    refine lv_iload_n hx hb d_Model_rate_11 rfl (lv_at hl 1 rfl) ?_
    refine lv_iconst (v := (0 : Int32)) hx hb d_Model_rate_12 (by decide) ?_
    refine lv_aload_n hx hb d_Model_rate_13 rfl (lv_at hl 0 rfl) ?_
    refine lv_iload_n hx hb d_Model_rate_14 rfl (lv_at hl 1 rfl) ?_
    refine lv_iconst (v := (1 : Int32)) hx hb d_Model_rate_15 (by decide) ?_
    refine lv_iconst (v := (1 : Int32)) hx hb d_Model_rate_16 (by decide) ?_
    obtain ⟨q17, hq17, hM⟩ := gb_some hM
    refine g_backI (g_runV (As := [.int x1, .int (1 : Int32), .int (1 : Int32)]) C hP (c_Model_value C.2.2.2.2.2.2.2.2.1 hq17) gi_Model_value gm_Model_275 rfl rfl (by decide) (by decide) hl.1 rfl (Nat.le_of_ble_eq_true rfl) d_Model_rate_17) hS (fun H locs hP hS => ?_)
    obtain ⟨q20, hq20, hM⟩ := gb_some hM
    refine g_backV (g_runV (As := [.int x1, .int (0 : Int32), .int q17.1]) C hP (c_Model_keep C.2.2.2.2.2.2.2.2.1 hq20) gi_Model_keep gm_Model_279 rfl rfl (by decide) (by decide) hl.1 rfl (Nat.le_of_ble_eq_true rfl) d_Model_rate_20) hS (fun H locs hP hS => ?_)
    refine lv_aload_n hx hb d_Model_rate_23 rfl (lv_at hl 0 rfl) ?_
    refine lv_iload_n hx hb d_Model_rate_24 rfl (lv_at hl 1 rfl) ?_
    refine lv_iconst (v := (1 : Int32)) hx hb d_Model_rate_25 (by decide) ?_
    refine lv_aload_n hx hb d_Model_rate_26 rfl (lv_at hl 0 rfl) ?_
    refine lv_iload_n hx hb d_Model_rate_27 rfl (lv_at hl 1 rfl) ?_
    refine lv_aload_n hx hb d_Model_rate_28 rfl (lv_at hl 0 rfl) ?_
    refine g_getI C hP gl_DeskModel_262 rfl rfl d_Model_rate_29 ?_
    refine lv_iconst (v := (1 : Int32)) hx hb d_Model_rate_32 (by decide) ?_
    obtain ⟨q33, hq33, hM⟩ := gb_some hM
    refine g_backI (g_runV (As := [.int x1, .int (q20.1 42 31), .int (1 : Int32)]) C hP (c_Model_value C.2.2.2.2.2.2.2.2.1 hq33) gi_Model_value gm_Model_275 rfl rfl (by decide) (by decide) hl.1 rfl (Nat.le_of_ble_eq_true rfl) d_Model_rate_33) hS (fun H locs hP hS => ?_)
    obtain ⟨q36, hq36, hM⟩ := gb_some hM
    refine g_backV (g_runV (As := [.int x1, .int (1 : Int32), .int q33.1]) C hP (c_Model_keep C.2.2.2.2.2.2.2.2.1 hq36) gi_Model_keep gm_Model_279 rfl rfl (by decide) (by decide) hl.1 rfl (Nat.le_of_ble_eq_true rfl) d_Model_rate_36) hS (fun H locs hP hS => ?_)
    refine lv_aload_n hx hb d_Model_rate_39 rfl (lv_at hl 0 rfl) ?_
    refine lv_iload_n hx hb d_Model_rate_40 rfl (lv_at hl 1 rfl) ?_
    refine lv_iconst (v := (2 : Int32)) hx hb d_Model_rate_41 (by decide) ?_
    refine lv_aload_n hx hb d_Model_rate_42 rfl (lv_at hl 0 rfl) ?_
    refine lv_iload_n hx hb d_Model_rate_43 rfl (lv_at hl 1 rfl) ?_
    refine lv_aload_n hx hb d_Model_rate_44 rfl (lv_at hl 0 rfl) ?_
    refine g_getI C hP gl_DeskModel_262 rfl rfl d_Model_rate_45 ?_
    refine lv_iload_n hx hb d_Model_rate_48 rfl (lv_at hl 1 rfl) ?_
    refine lv_isub hx hb d_Model_rate_49 ?_
    refine lv_iconst (v := (1 : Int32)) hx hb d_Model_rate_50 (by decide) ?_
    obtain ⟨q51, hq51, hM⟩ := gb_some hM
    refine g_backI (g_runV (As := [.int x1, .int ((q36.1 42 31) - x1), .int (1 : Int32)]) C hP (c_Model_value C.2.2.2.2.2.2.2.2.1 hq51) gi_Model_value gm_Model_275 rfl rfl (by decide) (by decide) hl.1 rfl (Nat.le_of_ble_eq_true rfl) d_Model_rate_51) hS (fun H locs hP hS => ?_)
    obtain ⟨q54, hq54, hM⟩ := gb_some hM
    refine g_backV (g_runV (As := [.int x1, .int (2 : Int32), .int q51.1]) C hP (c_Model_keep C.2.2.2.2.2.2.2.2.1 hq54) gi_Model_keep gm_Model_279 rfl rfl (by decide) (by decide) hl.1 rfl (Nat.le_of_ble_eq_true rfl) d_Model_rate_54) hS (fun H locs hP hS => ?_)
    refine lv_iload_n hx hb d_Model_rate_57 rfl (lv_at hl 1 rfl) ?_
    refine lv_if_le (tgt := 92) hx hb d_Model_rate_58 (by decide) (fun hc58 => ?_) (fun hc58 => ?_)
    · replace hM := gi_t hc58 hM
      exact t_Model_rate_b92 C hM hN hE0 ls H locs (lv_sub hl [0, 1] rfl) hP hS
    · replace hM := gi_f hc58 hM
      refine lv_aload_n hx hb d_Model_rate_61 rfl (lv_at hl 0 rfl) ?_
      refine lv_iconst (v := (4 : Int32)) hx hb d_Model_rate_62 (by decide) ?_
      refine lv_iload_n hx hb d_Model_rate_63 rfl (lv_at hl 1 rfl) ?_
      refine lv_imul hx hb d_Model_rate_64 ?_
      refine lv_iconst (v := (2 : Int32)) hx hb d_Model_rate_65 (by decide) ?_
      refine lv_iadd hx hb d_Model_rate_66 ?_
      refine lv_iconst (v := (4 : Int32)) hx hb d_Model_rate_67 (by decide) ?_
      refine lv_iload_n hx hb d_Model_rate_68 rfl (lv_at hl 1 rfl) ?_
      refine lv_imul hx hb d_Model_rate_69 ?_
      refine lv_iconst (v := (2 : Int32)) hx hb d_Model_rate_70 (by decide) ?_
      refine lv_isub hx hb d_Model_rate_71 ?_
      obtain ⟨q72, hq72, hM⟩ := gb_some hM
      refine g_backI (g_runV (As := [.int (((4 : Int32) * x1) + (2 : Int32)), .int (((4 : Int32) * x1) - (2 : Int32))]) C hP (c_Model_compare C.2.2.2.2.2.2.2.2.1 hq72) gi_Model_compare gm_Model_282 rfl rfl (by decide) (by decide) hl.1 rfl (Nat.le_of_ble_eq_true rfl) d_Model_rate_72) hS (fun H locs hP hS => ?_)
      refine lv_if_ge (tgt := 92) hx hb d_Model_rate_75 (by decide) (fun hc75 => ?_) (fun hc75 => ?_)
      · replace hM := gi_t hc75 hM
        exact t_Model_rate_b92 C hM hN hE0 ls H locs (lv_sub hl [0, 1] rfl) hP hS
      · replace hM := gi_f hc75 hM
        refine lv_aload_n hx hb d_Model_rate_78 rfl (lv_at hl 0 rfl) ?_
        refine lv_iconst (v := (4 : Int32)) hx hb d_Model_rate_79 (by decide) ?_
        refine lv_iload_n hx hb d_Model_rate_80 rfl (lv_at hl 1 rfl) ?_
        refine lv_imul hx hb d_Model_rate_81 ?_
        refine lv_iconst (v := (2 : Int32)) hx hb d_Model_rate_82 (by decide) ?_
        refine lv_iadd hx hb d_Model_rate_83 ?_
        refine lv_iconst (v := (4 : Int32)) hx hb d_Model_rate_84 (by decide) ?_
        refine lv_iload_n hx hb d_Model_rate_85 rfl (lv_at hl 1 rfl) ?_
        refine lv_imul hx hb d_Model_rate_86 ?_
        refine lv_iconst (v := (2 : Int32)) hx hb d_Model_rate_87 (by decide) ?_
        refine lv_isub hx hb d_Model_rate_88 ?_
        obtain ⟨q89, hq89, hM⟩ := gb_some hM
        refine g_backV (g_runV (As := [.int (((4 : Int32) * x1) + (2 : Int32)), .int (((4 : Int32) * x1) - (2 : Int32))]) C hP (c_Model_copyValue C.2.2.2.2.2.2.2.2.1 hq89) gi_Model_copyValue gm_Model_285 rfl rfl (by decide) (by decide) hl.1 rfl (Nat.le_of_ble_eq_true rfl) d_Model_rate_89) hS (fun H locs hP hS => ?_)
        exact t_Model_rate_b92 C hM hN hE0 ls H locs (lv_sub hl [0, 1] rfl) hP hS
noncomputable def M_Model_rate_L2 : (Int32 × gSt) → Option ((Int32 × gSt) ⊕ ((gSt))) := fun x => M_Model_rate_b2 x.1 x.2
theorem t_Model_rate_L2 (C : gX "TermDeskModel" prog_13_method_57_code 2 none 3 73 R cells slots cy D ρ A p s m args meth c) {x1 : Int32} {u : gSt} {yy : (gSt)} (hL : gLp M_Model_rate_L2 (x1, u) = some yy) (hE0 : (∀ y', yy = y' → gAt p l e R s m args below meth c Q H0 cells slots cy D ρ A 2 116 [(0, .ref (ρ 42))] [] (y'))) : gAt p l e R s m args below meth c Q H0 cells slots cy D ρ A 2 2 [(0, .ref (ρ 42)), (1, .int x1)] [] u :=
  g_loop (f := M_Model_rate_L2) (P := fun x => gAt p l e R s m args below meth c Q H0 cells slots cy D ρ A 2 2 [(0, .ref (ρ 42)), (1, .int x.1)] [] x.2) (E := fun yy => (∀ y', yy = y' → gAt p l e R s m args below meth c Q H0 cells slots cy D ρ A 2 116 [(0, .ref (ρ 42))] [] (y'))) (fun x z hf hN hE => t_Model_rate_b2 C hf (fun x1' u' h => hN (x1', u') h) (fun u' h => (hE _ h) u' rfl)) hL hE0
noncomputable def M_Model_rate_b160 (x1 : Int32) (u : gSt) : Option ((Int32 × gSt) ⊕ ((gSt))) :=
  some (.inl (x1 + (-1 : Int32), u))
set_option maxHeartbeats 4000000 in
set_option maxRecDepth 100000 in
theorem t_Model_rate_b160 (C : gX "TermDeskModel" prog_13_method_57_code 2 none 3 73 R cells slots cy D ρ A p s m args meth c) {x1 : Int32} {u : gSt} {z : (Int32 × gSt) ⊕ ((gSt))} (hM : M_Model_rate_b160 x1 u = some z) (hN : ∀ x1' u', z = .inl (x1', u') → gAt p l e R s m args below meth c Q H0 cells slots cy D ρ A 2 123 [(0, .ref (ρ 42)), (1, .int (x1'))] [] (u')) (hE0 : ∀ u', z = .inr u' → gAt p l e R s m args below meth c Q H0 cells slots cy D ρ A 2 166 [] [] (u')) : gAt p l e R s m args below meth c Q H0 cells slots cy D ρ A 2 160 [(0, .ref (ρ 42)), (1, .int x1)] [] u := by
  intro ls H locs hl hP hS
  have hx := C.1
  have hb := C.2.1
  unfold M_Model_rate_b160 at hM
  refine lv_iinc (k := 1) (v := x1 + (-1 : Int32)) (lv' := [(1, .int (x1 + (-1 : Int32))), (0, .ref (ρ 42))]) hx hb d_Model_rate_160 hl rfl (congrArg (fun z => x1 + z) (by decide)) (by decide) rfl (fun ls hl => ?_)
  refine lv_goto (tgt := 123) hx hb d_Model_rate_163 (by decide) ?_
  exact hN _ _ (Option.some.inj hM).symm ls H locs (lv_sub hl [1, 0] rfl) hP hS
noncomputable def M_Model_rate_b123 (x1 : Int32) (u : gSt) : Option ((Int32 × gSt) ⊕ ((gSt))) :=
  if x1 < (0 : Int32) then
    (some (.inr u))
  else
    ((M_Model_compare (((4 : Int32) * x1) + (7 : Int32)) (((4 : Int32) * x1) + (3 : Int32)) u).bind fun q139 =>
    if (0 : Int32) ≤ q139.1 then
      (M_Model_rate_b160 x1 q139.2)
    else
      ((M_Model_copyValue (((4 : Int32) * x1) + (3 : Int32)) (((4 : Int32) * x1) + (7 : Int32)) q139.2).bind fun q157 =>
      M_Model_rate_b160 x1 q157))
set_option maxHeartbeats 4000000 in
set_option maxRecDepth 100000 in
theorem t_Model_rate_b123 (C : gX "TermDeskModel" prog_13_method_57_code 2 none 3 73 R cells slots cy D ρ A p s m args meth c) {x1 : Int32} {u : gSt} {z : (Int32 × gSt) ⊕ ((gSt))} (hM : M_Model_rate_b123 x1 u = some z) (hN : ∀ x1' u', z = .inl (x1', u') → gAt p l e R s m args below meth c Q H0 cells slots cy D ρ A 2 123 [(0, .ref (ρ 42)), (1, .int (x1'))] [] (u')) (hE0 : ∀ u', z = .inr u' → gAt p l e R s m args below meth c Q H0 cells slots cy D ρ A 2 166 [] [] (u')) : gAt p l e R s m args below meth c Q H0 cells slots cy D ρ A 2 123 [(0, .ref (ρ 42)), (1, .int x1)] [] u := by
  intro ls H locs hl hP hS
  have hx := C.1
  have hb := C.2.1
  unfold M_Model_rate_b123 at hM
  refine lv_iload_n hx hb d_Model_rate_123 rfl (lv_at hl 1 rfl) ?_
  refine lv_if_lt (tgt := 166) hx hb d_Model_rate_124 (by decide) (fun hc124 => ?_) (fun hc124 => ?_)
  · replace hM := gi_t hc124 hM
    exact hE0 _ (Option.some.inj hM).symm ls H locs (lv_sub hl [] rfl) hP hS
  · replace hM := gi_f hc124 hM
    refine lv_aload_n hx hb d_Model_rate_127 rfl (lv_at hl 0 rfl) ?_
    refine lv_iconst (v := (4 : Int32)) hx hb d_Model_rate_128 (by decide) ?_
    refine lv_iload_n hx hb d_Model_rate_129 rfl (lv_at hl 1 rfl) ?_
    refine lv_imul hx hb d_Model_rate_130 ?_
    refine lv_bipush (v := (7 : Int32)) hx hb d_Model_rate_131 (by decide) ?_
    refine lv_iadd hx hb d_Model_rate_133 ?_
    refine lv_iconst (v := (4 : Int32)) hx hb d_Model_rate_134 (by decide) ?_
    refine lv_iload_n hx hb d_Model_rate_135 rfl (lv_at hl 1 rfl) ?_
    refine lv_imul hx hb d_Model_rate_136 ?_
    refine lv_iconst (v := (3 : Int32)) hx hb d_Model_rate_137 (by decide) ?_
    refine lv_iadd hx hb d_Model_rate_138 ?_
    obtain ⟨q139, hq139, hM⟩ := gb_some hM
    refine g_backI (g_runV (As := [.int (((4 : Int32) * x1) + (7 : Int32)), .int (((4 : Int32) * x1) + (3 : Int32))]) C hP (c_Model_compare C.2.2.2.2.2.2.2.2.1 hq139) gi_Model_compare gm_Model_282 rfl rfl (by decide) (by decide) hl.1 rfl (Nat.le_of_ble_eq_true rfl) d_Model_rate_139) hS (fun H locs hP hS => ?_)
    refine lv_if_ge (tgt := 160) hx hb d_Model_rate_142 (by decide) (fun hc142 => ?_) (fun hc142 => ?_)
    · replace hM := gi_t hc142 hM
      exact t_Model_rate_b160 C hM hN hE0 ls H locs (lv_sub hl [0, 1] rfl) hP hS
    · replace hM := gi_f hc142 hM
      refine lv_aload_n hx hb d_Model_rate_145 rfl (lv_at hl 0 rfl) ?_
      refine lv_iconst (v := (4 : Int32)) hx hb d_Model_rate_146 (by decide) ?_
      refine lv_iload_n hx hb d_Model_rate_147 rfl (lv_at hl 1 rfl) ?_
      refine lv_imul hx hb d_Model_rate_148 ?_
      refine lv_iconst (v := (3 : Int32)) hx hb d_Model_rate_149 (by decide) ?_
      refine lv_iadd hx hb d_Model_rate_150 ?_
      refine lv_iconst (v := (4 : Int32)) hx hb d_Model_rate_151 (by decide) ?_
      refine lv_iload_n hx hb d_Model_rate_152 rfl (lv_at hl 1 rfl) ?_
      refine lv_imul hx hb d_Model_rate_153 ?_
      refine lv_bipush (v := (7 : Int32)) hx hb d_Model_rate_154 (by decide) ?_
      refine lv_iadd hx hb d_Model_rate_156 ?_
      obtain ⟨q157, hq157, hM⟩ := gb_some hM
      refine g_backV (g_runV (As := [.int (((4 : Int32) * x1) + (3 : Int32)), .int (((4 : Int32) * x1) + (7 : Int32))]) C hP (c_Model_copyValue C.2.2.2.2.2.2.2.2.1 hq157) gi_Model_copyValue gm_Model_285 rfl rfl (by decide) (by decide) hl.1 rfl (Nat.le_of_ble_eq_true rfl) d_Model_rate_157) hS (fun H locs hP hS => ?_)
      exact t_Model_rate_b160 C hM hN hE0 ls H locs (lv_sub hl [0, 1] rfl) hP hS
noncomputable def M_Model_rate_L123 : (Int32 × gSt) → Option ((Int32 × gSt) ⊕ ((gSt))) := fun x => M_Model_rate_b123 x.1 x.2
theorem t_Model_rate_L123 (C : gX "TermDeskModel" prog_13_method_57_code 2 none 3 73 R cells slots cy D ρ A p s m args meth c) {x1 : Int32} {u : gSt} {yy : (gSt)} (hL : gLp M_Model_rate_L123 (x1, u) = some yy) (hE0 : (∀ y', yy = y' → gAt p l e R s m args below meth c Q H0 cells slots cy D ρ A 2 166 [] [] (y'))) : gAt p l e R s m args below meth c Q H0 cells slots cy D ρ A 2 123 [(0, .ref (ρ 42)), (1, .int x1)] [] u :=
  g_loop (f := M_Model_rate_L123) (P := fun x => gAt p l e R s m args below meth c Q H0 cells slots cy D ρ A 2 123 [(0, .ref (ρ 42)), (1, .int x.1)] [] x.2) (E := fun yy => (∀ y', yy = y' → gAt p l e R s m args below meth c Q H0 cells slots cy D ρ A 2 166 [] [] (y'))) (fun x z hf hN hE => t_Model_rate_b123 C hf (fun x1' u' h => hN (x1', u') h) (fun u' h => (hE _ h) u' rfl)) hL hE0
noncomputable def M_Model_rate (u : gSt) : Option (gSt) :=
  (gLp M_Model_rate_L2 ((0 : Int32), u)).bind fun y2 =>
  (gLp M_Model_rate_L123 ((y2.1 42 31) - (2 : Int32), y2)).bind fun y123 =>
  some y123
set_option maxHeartbeats 4000000 in
set_option maxRecDepth 100000 in
theorem t_Model_rate (C : gX "TermDeskModel" prog_13_method_57_code 2 none 3 73 R cells slots cy D ρ A p s m args meth c) {u : gSt} {z : gSt} (hM : M_Model_rate u = some z) (hR : gRtV p l e R s m args below meth c Q H0 cells slots cy D ρ A prog_13_method_57_code z) : gAt p l e R s m args below meth c Q H0 cells slots cy D ρ A 2 0 [(0, .ref (ρ 42))] [] u := by
  intro ls H locs hl hP hS
  have hx := C.1
  have hb := C.2.1
  unfold M_Model_rate at hM
  refine lv_iconst (v := (0 : Int32)) hx hb d_Model_rate_0 (by decide) ?_
  refine lv_istore_n (lv' := [(1, .int (0 : Int32)), (0, .ref (ρ 42))]) hx hb d_Model_rate_1 rfl hl (by decide) rfl (fun ls hl => ?_)
  obtain ⟨y2, hL2, hM⟩ := gb_some hM
  refine t_Model_rate_L2 C hL2 (fun y2_0 hy => ?_) ls H locs (lv_sub hl [1, 0] rfl) hP hS
  · subst hy
    intro ls H locs hl hP hS
    refine lv_aload_n hx hb d_Model_rate_116 rfl (lv_at hl 0 rfl) ?_
    refine g_getI C hP gl_DeskModel_262 rfl rfl d_Model_rate_117 ?_
    refine lv_iconst (v := (2 : Int32)) hx hb d_Model_rate_120 (by decide) ?_
    refine lv_isub hx hb d_Model_rate_121 ?_
    refine lv_istore_n (lv' := [(1, .int ((y2.1 42 31) - (2 : Int32))), (0, .ref (ρ 42))]) hx hb d_Model_rate_122 rfl hl (by decide) rfl (fun ls hl => ?_)
    obtain ⟨y123, hL123, hM⟩ := gb_some hM
    refine t_Model_rate_L123 C hL123 (fun y123_0 hy => ?_) ls H locs (lv_sub hl [1, 0] rfl) hP hS
    · subst hy
      intro ls H locs hl hP hS
      obtain rfl := Option.some.inj hM
      exact hR _ ls H locs d_Model_rate_166 hP hS
theorem c_Model_rate {l : Launch} {cy : Nat → ClassId} {D : va_G} {ρ : Nat → Nat} {A : Nat → Prop} (hD : gD ρ A) {u : gSt} {z : gSt} (hM : M_Model_rate u = some z) : gCtV l y_Model_rate prog_13_method_57_code 2 none 3 73 cy D ρ A [.ref (ρ 42)] u z :=
  g_met (by decide) hD (Nat.le_of_ble_eq_true rfl) (fun p e s m below meth c ls X hl hP => t_Model_rate X hM (fun pc ls H locs hd hP hS => g_vret X hP hS hd) ls _ [] hl hP va_S.rf)
end
section
variable {p : Program} {l : Launch} {e : Env} {R : Room} {s : State} {m : MethodId} {args : Array Value} {below : List Frame} {meth : Method} {c : Code} {Q : State → Prop} {H0 : Heap} {cells slots : Nat} {cy : Nat → ClassId} {D : va_G} {ρ : Nat → Nat} {A : Nat → Prop}
def y_Model_isBefore : MethodName := ⟨"TermDeskModel", "isBefore", "(II)Z"⟩
theorem gi_Model_isBefore : gMi y_Model_isBefore prog_13_method_59_code 4 (some .boolean) 2 8 := ⟨(gWs_at 1379 (by decide +kernel) (by decide +kernel)), (gWs_at 1378 (by decide +kernel) (by decide +kernel)), (gWs_at 110 (by decide +kernel) (by decide +kernel)), (gWs_at 125 (by decide +kernel) (by decide +kernel)), ⟨by decide +kernel, by decide +kernel, by decide +kernel⟩, _, _, rfl⟩
theorem gm_Model_294 : gMk "TermDeskModel" 294 y_Model_isBefore := Or.inl (gWs_at 1376 (by decide +kernel) (by decide +kernel))
theorem d_Model_isBefore_0 : decode prog_13_method_59_code 0 = .ok (.aload_n 0, 1) := by decide +kernel
theorem d_Model_isBefore_1 : decode prog_13_method_59_code 1 = .ok (.iload_n 1, 1) := by decide +kernel
theorem d_Model_isBefore_2 : decode prog_13_method_59_code 2 = .ok (.iload_n 2, 1) := by decide +kernel
theorem d_Model_isBefore_3 : decode prog_13_method_59_code 3 = .ok (.invokevirtual 282, 3) := by decide +kernel
theorem d_Model_isBefore_6 : decode prog_13_method_59_code 6 = .ok (.istore_n 3, 1) := by decide +kernel
theorem d_Model_isBefore_7 : decode prog_13_method_59_code 7 = .ok (.iload_n 3, 1) := by decide +kernel
theorem d_Model_isBefore_8 : decode prog_13_method_59_code 8 = .ok (.ifCond .lt 26, 3) := by decide +kernel
theorem d_Model_isBefore_11 : decode prog_13_method_59_code 11 = .ok (.iload_n 3, 1) := by decide +kernel
theorem d_Model_isBefore_12 : decode prog_13_method_59_code 12 = .ok (.ifCond .ne 26, 3) := by decide +kernel
theorem d_Model_isBefore_15 : decode prog_13_method_59_code 15 = .ok (.aload_n 0, 1) := by decide +kernel
theorem d_Model_isBefore_16 : decode prog_13_method_59_code 16 = .ok (.getfield 62, 3) := by decide +kernel
theorem d_Model_isBefore_19 : decode prog_13_method_59_code 19 = .ok (.iload_n 1, 1) := by decide +kernel
theorem d_Model_isBefore_20 : decode prog_13_method_59_code 20 = .ok (.iconst 4, 1) := by decide +kernel
theorem d_Model_isBefore_21 : decode prog_13_method_59_code 21 = .ok (.idiv, 1) := by decide +kernel
theorem d_Model_isBefore_22 : decode prog_13_method_59_code 22 = .ok (.iaload, 1) := by decide +kernel
theorem d_Model_isBefore_23 : decode prog_13_method_59_code 23 = .ok (.aload_n 0, 1) := by decide +kernel
theorem d_Model_isBefore_24 : decode prog_13_method_59_code 24 = .ok (.getfield 62, 3) := by decide +kernel
theorem d_Model_isBefore_27 : decode prog_13_method_59_code 27 = .ok (.iload_n 2, 1) := by decide +kernel
theorem d_Model_isBefore_28 : decode prog_13_method_59_code 28 = .ok (.iconst 4, 1) := by decide +kernel
theorem d_Model_isBefore_29 : decode prog_13_method_59_code 29 = .ok (.idiv, 1) := by decide +kernel
theorem d_Model_isBefore_30 : decode prog_13_method_59_code 30 = .ok (.iaload, 1) := by decide +kernel
theorem d_Model_isBefore_31 : decode prog_13_method_59_code 31 = .ok (.if_icmp .ge 7, 3) := by decide +kernel
theorem d_Model_isBefore_34 : decode prog_13_method_59_code 34 = .ok (.iconst 1, 1) := by decide +kernel
theorem d_Model_isBefore_35 : decode prog_13_method_59_code 35 = .ok (.goto 4, 3) := by decide +kernel
theorem d_Model_isBefore_38 : decode prog_13_method_59_code 38 = .ok (.iconst 0, 1) := by decide +kernel
theorem d_Model_isBefore_39 : decode prog_13_method_59_code 39 = .ok (.ireturn, 1) := by decide +kernel
noncomputable def M_Model_isBefore_b39 (s0 : Int32) (u : gSt) : Option ((Int32 × gSt)) :=
  gc (gZ s0) <| some (s0, u)
set_option maxHeartbeats 4000000 in
set_option maxRecDepth 100000 in
theorem t_Model_isBefore_b39 (C : gX "TermDeskModel" prog_13_method_59_code 4 (some .boolean) 3 72 R cells slots cy D ρ A p s m args meth c) {s0 : Int32} {u : gSt} {z : (Int32 × gSt)} (hM : M_Model_isBefore_b39 s0 u = some z) (hR : gRtZ p l e R s m args below meth c Q H0 cells slots cy D ρ A prog_13_method_59_code z.1 z.2) : gAt p l e R s m args below meth c Q H0 cells slots cy D ρ A 4 39 [] [.int s0] u := by
  intro ls H locs hl hP hS
  have hx := C.1
  have hb := C.2.1
  unfold M_Model_isBefore_b39 at hM
  obtain ⟨hz39, hM⟩ := gc_some hM
  obtain rfl := Option.some.inj hM
  exact hR _ ls H locs hz39 d_Model_isBefore_39 hP hS
noncomputable def M_Model_isBefore_b34 (u : gSt) : Option ((Int32 × gSt)) :=
  M_Model_isBefore_b39 (1 : Int32) u
set_option maxHeartbeats 4000000 in
set_option maxRecDepth 100000 in
theorem t_Model_isBefore_b34 (C : gX "TermDeskModel" prog_13_method_59_code 4 (some .boolean) 3 72 R cells slots cy D ρ A p s m args meth c) {u : gSt} {z : (Int32 × gSt)} (hM : M_Model_isBefore_b34 u = some z) (hR : gRtZ p l e R s m args below meth c Q H0 cells slots cy D ρ A prog_13_method_59_code z.1 z.2) : gAt p l e R s m args below meth c Q H0 cells slots cy D ρ A 4 34 [] [] u := by
  intro ls H locs hl hP hS
  have hx := C.1
  have hb := C.2.1
  unfold M_Model_isBefore_b34 at hM
  refine lv_iconst (v := (1 : Int32)) hx hb d_Model_isBefore_34 (by decide) ?_
  refine lv_goto (tgt := 39) hx hb d_Model_isBefore_35 (by decide) ?_
  exact t_Model_isBefore_b39 C hM hR ls H locs (lv_sub hl [] rfl) hP hS
noncomputable def M_Model_isBefore_b38 (u : gSt) : Option ((Int32 × gSt)) :=
  M_Model_isBefore_b39 (0 : Int32) u
set_option maxHeartbeats 4000000 in
set_option maxRecDepth 100000 in
theorem t_Model_isBefore_b38 (C : gX "TermDeskModel" prog_13_method_59_code 4 (some .boolean) 3 72 R cells slots cy D ρ A p s m args meth c) {u : gSt} {z : (Int32 × gSt)} (hM : M_Model_isBefore_b38 u = some z) (hR : gRtZ p l e R s m args below meth c Q H0 cells slots cy D ρ A prog_13_method_59_code z.1 z.2) : gAt p l e R s m args below meth c Q H0 cells slots cy D ρ A 4 38 [] [] u := by
  intro ls H locs hl hP hS
  have hx := C.1
  have hb := C.2.1
  unfold M_Model_isBefore_b38 at hM
  refine lv_iconst (v := (0 : Int32)) hx hb d_Model_isBefore_38 (by decide) ?_
  exact t_Model_isBefore_b39 C hM hR ls H locs (lv_sub hl [] rfl) hP hS
noncomputable def M_Model_isBefore (x1 : Int32) (x2 : Int32) (u : gSt) : Option ((Int32 × gSt)) :=
  (M_Model_compare x1 x2 u).bind fun q3 =>
  if q3.1 < (0 : Int32) then
    (M_Model_isBefore_b34 q3.2)
  else
    (if q3.1 = (0 : Int32) then
      (gc (gIn (x1 / (4 : Int32)) (gLen 58)) <| gc (gIn (x2 / (4 : Int32)) (gLen 58)) <| if (q3.2.2.2.1 58 (gIx (x2 / (4 : Int32)))) ≤ (q3.2.2.2.1 58 (gIx (x1 / (4 : Int32)))) then
        (M_Model_isBefore_b38 q3.2)
      else
        (M_Model_isBefore_b34 q3.2))
    else
      (M_Model_isBefore_b38 q3.2))
set_option maxHeartbeats 4000000 in
set_option maxRecDepth 100000 in
theorem t_Model_isBefore (C : gX "TermDeskModel" prog_13_method_59_code 4 (some .boolean) 3 72 R cells slots cy D ρ A p s m args meth c) {x1 : Int32} {x2 : Int32} {u : gSt} {z : (Int32 × gSt)} (hM : M_Model_isBefore x1 x2 u = some z) (hR : gRtZ p l e R s m args below meth c Q H0 cells slots cy D ρ A prog_13_method_59_code z.1 z.2) : gAt p l e R s m args below meth c Q H0 cells slots cy D ρ A 4 0 [(0, .ref (ρ 42)), (1, .int x1), (2, .int x2)] [] u := by
  intro ls H locs hl hP hS
  have hx := C.1
  have hb := C.2.1
  unfold M_Model_isBefore at hM
  refine lv_aload_n hx hb d_Model_isBefore_0 rfl (lv_at hl 0 rfl) ?_
  refine lv_iload_n hx hb d_Model_isBefore_1 rfl (lv_at hl 1 rfl) ?_
  refine lv_iload_n hx hb d_Model_isBefore_2 rfl (lv_at hl 2 rfl) ?_
  obtain ⟨q3, hq3, hM⟩ := gb_some hM
  refine g_backI (g_runV (As := [.int x1, .int x2]) C hP (c_Model_compare C.2.2.2.2.2.2.2.2.1 hq3) gi_Model_compare gm_Model_282 rfl rfl (by decide) (by decide) hl.1 rfl (Nat.le_of_ble_eq_true rfl) d_Model_isBefore_3) hS (fun H locs hP hS => ?_)
  refine lv_istore_n (lv' := [(3, .int q3.1), (0, .ref (ρ 42)), (1, .int x1), (2, .int x2)]) hx hb d_Model_isBefore_6 rfl hl (by decide) rfl (fun ls hl => ?_)
  refine lv_iload_n hx hb d_Model_isBefore_7 rfl (lv_at hl 0 rfl) ?_
  refine lv_if_lt (tgt := 34) hx hb d_Model_isBefore_8 (by decide) (fun hc8 => ?_) (fun hc8 => ?_)
  · replace hM := gi_t hc8 hM
    exact t_Model_isBefore_b34 C hM hR ls H locs (lv_sub hl [] rfl) hP hS
  · replace hM := gi_f hc8 hM
    refine lv_iload_n hx hb d_Model_isBefore_11 rfl (lv_at hl 0 rfl) ?_
    refine lv_if_ne (tgt := 38) hx hb d_Model_isBefore_12 (by decide) (fun hc12 => ?_) (fun hc12 => ?_)
    · replace hM := gi_f hc12 hM
      exact t_Model_isBefore_b38 C hM hR ls H locs (lv_sub hl [] rfl) hP hS
    · replace hM := gi_t hc12 hM
      refine lv_aload_n hx hb d_Model_isBefore_15 rfl (lv_at hl 1 rfl) ?_
      refine g_getR (b := 58) C hP gl_DeskModel_62 rfl rfl rfl d_Model_isBefore_16 ?_
      refine lv_iload_n hx hb d_Model_isBefore_19 rfl (lv_at hl 2 rfl) ?_
      refine lv_iconst (v := (4 : Int32)) hx hb d_Model_isBefore_20 (by decide) ?_
      refine lv_idiv hx hb d_Model_isBefore_21 (by decide) ?_
      obtain ⟨hi22, hM⟩ := gc_some hM
      refine g_iald C hP rfl hi22 d_Model_isBefore_22 ?_
      refine lv_aload_n hx hb d_Model_isBefore_23 rfl (lv_at hl 1 rfl) ?_
      refine g_getR (b := 58) C hP gl_DeskModel_62 rfl rfl rfl d_Model_isBefore_24 ?_
      refine lv_iload_n hx hb d_Model_isBefore_27 rfl (lv_at hl 3 rfl) ?_
      refine lv_iconst (v := (4 : Int32)) hx hb d_Model_isBefore_28 (by decide) ?_
      refine lv_idiv hx hb d_Model_isBefore_29 (by decide) ?_
      obtain ⟨hi30, hM⟩ := gc_some hM
      refine g_iald C hP rfl hi30 d_Model_isBefore_30 ?_
      refine lv_icmp_ge (tgt := 38) hx hb d_Model_isBefore_31 (by decide) (fun hc31 => ?_) (fun hc31 => ?_)
      · replace hM := gi_t hc31 hM
        exact t_Model_isBefore_b38 C hM hR ls H locs (lv_sub hl [] rfl) hP hS
      · replace hM := gi_f hc31 hM
        exact t_Model_isBefore_b34 C hM hR ls H locs (lv_sub hl [] rfl) hP hS
theorem c_Model_isBefore {l : Launch} {cy : Nat → ClassId} {D : va_G} {ρ : Nat → Nat} {A : Nat → Prop} (hD : gD ρ A) {x1 : Int32} {x2 : Int32} {u : gSt} {z : (Int32 × gSt)} (hM : M_Model_isBefore x1 x2 u = some z) : gCtI l y_Model_isBefore prog_13_method_59_code 4 (some .boolean) 3 72 cy D ρ A [.ref (ρ 42), .int x1, .int x2] u z.1 z.2 :=
  g_met (by decide) hD (Nat.le_of_ble_eq_true rfl) (fun p e s m below meth c ls X hl hP => t_Model_isBefore X hM (fun pc ls H locs hz hd hP hS => g_zret X hP hS hz hd) ls _ [] hl hP va_S.rf)
end
section
variable {p : Program} {l : Launch} {e : Env} {R : Room} {s : State} {m : MethodId} {args : Array Value} {below : List Frame} {meth : Method} {c : Code} {Q : State → Prop} {H0 : Heap} {cells slots : Nat} {cy : Nat → ClassId} {D : va_G} {ρ : Nat → Nat} {A : Nat → Prop}
def y_Model_report : MethodName := ⟨"TermDeskModel", "report", "(III)I"⟩
theorem gi_Model_report : gMi y_Model_report prog_13_method_58_code 6 (some .int) 3 8 := ⟨(gWs_at 1297 (by decide +kernel) (by decide +kernel)), (gWs_at 1295 (by decide +kernel) (by decide +kernel)), (gWs_at 1296 (by decide +kernel) (by decide +kernel)), (gWs_at 125 (by decide +kernel) (by decide +kernel)), ⟨by decide +kernel, by decide +kernel, by decide +kernel⟩, _, _, rfl⟩
theorem gm_Law_99 : gMk "TermDeskLaw" 99 y_Model_report := Or.inl (gWs_at 1294 (by decide +kernel) (by decide +kernel))
theorem d_Model_report_0 : decode prog_13_method_58_code 0 = .ok (.aload_n 0, 1) := by decide +kernel
theorem d_Model_report_1 : decode prog_13_method_58_code 1 = .ok (.iload_n 1, 1) := by decide +kernel
theorem d_Model_report_2 : decode prog_13_method_58_code 2 = .ok (.ifCond .lt 17, 3) := by decide +kernel
theorem d_Model_report_5 : decode prog_13_method_58_code 5 = .ok (.iload_n 1, 1) := by decide +kernel
theorem d_Model_report_6 : decode prog_13_method_58_code 6 = .ok (.iconst 3, 1) := by decide +kernel
theorem d_Model_report_7 : decode prog_13_method_58_code 7 = .ok (.if_icmp .gt 12, 3) := by decide +kernel
theorem d_Model_report_10 : decode prog_13_method_58_code 10 = .ok (.iload_n 2, 1) := by decide +kernel
theorem d_Model_report_11 : decode prog_13_method_58_code 11 = .ok (.ifCond .lt 8, 3) := by decide +kernel
theorem d_Model_report_14 : decode prog_13_method_58_code 14 = .ok (.iload_n 3, 1) := by decide +kernel
theorem d_Model_report_15 : decode prog_13_method_58_code 15 = .ok (.iconst 1, 1) := by decide +kernel
theorem d_Model_report_16 : decode prog_13_method_58_code 16 = .ok (.if_icmp .ge 7, 3) := by decide +kernel
theorem d_Model_report_19 : decode prog_13_method_58_code 19 = .ok (.iconst 1, 1) := by decide +kernel
theorem d_Model_report_20 : decode prog_13_method_58_code 20 = .ok (.goto 4, 3) := by decide +kernel
theorem d_Model_report_23 : decode prog_13_method_58_code 23 = .ok (.iconst 0, 1) := by decide +kernel
theorem d_Model_report_24 : decode prog_13_method_58_code 24 = .ok (.iconst 1, 1) := by decide +kernel
theorem d_Model_report_25 : decode prog_13_method_58_code 25 = .ok (.invokevirtual 133, 3) := by decide +kernel
theorem d_Model_report_28 : decode prog_13_method_58_code 28 = .ok (.ifCond .eq 5, 3) := by decide +kernel
theorem d_Model_report_31 : decode prog_13_method_58_code 31 = .ok (.iconst 0, 1) := by decide +kernel
theorem d_Model_report_32 : decode prog_13_method_58_code 32 = .ok (.ireturn, 1) := by decide +kernel
theorem d_Model_report_33 : decode prog_13_method_58_code 33 = .ok (.aload_n 0, 1) := by decide +kernel
theorem d_Model_report_34 : decode prog_13_method_58_code 34 = .ok (.invokevirtual 288, 3) := by decide +kernel
theorem d_Model_report_37 : decode prog_13_method_58_code 37 = .ok (.aload_n 0, 1) := by decide +kernel
theorem d_Model_report_38 : decode prog_13_method_58_code 38 = .ok (.invokevirtual 291, 3) := by decide +kernel
theorem d_Model_report_41 : decode prog_13_method_58_code 41 = .ok (.aload_n 0, 1) := by decide +kernel
theorem d_Model_report_42 : decode prog_13_method_58_code 42 = .ok (.iconst 4, 1) := by decide +kernel
theorem d_Model_report_43 : decode prog_13_method_58_code 43 = .ok (.aload_n 0, 1) := by decide +kernel
theorem d_Model_report_44 : decode prog_13_method_58_code 44 = .ok (.getfield 77, 3) := by decide +kernel
theorem d_Model_report_47 : decode prog_13_method_58_code 47 = .ok (.iconst 0, 1) := by decide +kernel
theorem d_Model_report_48 : decode prog_13_method_58_code 48 = .ok (.invokevirtual 272, 3) := by decide +kernel
theorem d_Model_report_51 : decode prog_13_method_58_code 51 = .ok (.aload_n 0, 1) := by decide +kernel
theorem d_Model_report_52 : decode prog_13_method_58_code 52 = .ok (.iconst 0, 1) := by decide +kernel
theorem d_Model_report_53 : decode prog_13_method_58_code 53 = .ok (.putfield 246, 3) := by decide +kernel
theorem d_Model_report_56 : decode prog_13_method_58_code 56 = .ok (.iconst 0, 1) := by decide +kernel
theorem d_Model_report_57 : decode prog_13_method_58_code 57 = .ok (.istore 4, 2) := by decide +kernel
theorem d_Model_report_59 : decode prog_13_method_58_code 59 = .ok (.iload 4, 2) := by decide +kernel
theorem d_Model_report_61 : decode prog_13_method_58_code 61 = .ok (.aload_n 0, 1) := by decide +kernel
theorem d_Model_report_62 : decode prog_13_method_58_code 62 = .ok (.getfield 262, 3) := by decide +kernel
theorem d_Model_report_65 : decode prog_13_method_58_code 65 = .ok (.if_icmp .ge 161, 3) := by decide +kernel
theorem d_Model_report_68 : decode prog_13_method_58_code 68 = .ok (.aload_n 0, 1) := by decide +kernel
theorem d_Model_report_69 : decode prog_13_method_58_code 69 = .ok (.iconst 5, 1) := by decide +kernel
theorem d_Model_report_70 : decode prog_13_method_58_code 70 = .ok (.aload_n 0, 1) := by decide +kernel
theorem d_Model_report_71 : decode prog_13_method_58_code 71 = .ok (.getfield 65, 3) := by decide +kernel
theorem d_Model_report_74 : decode prog_13_method_58_code 74 = .ok (.bipush 20, 2) := by decide +kernel
theorem d_Model_report_76 : decode prog_13_method_58_code 76 = .ok (.iconst 4, 1) := by decide +kernel
theorem d_Model_report_77 : decode prog_13_method_58_code 77 = .ok (.iload 4, 2) := by decide +kernel
theorem d_Model_report_79 : decode prog_13_method_58_code 79 = .ok (.imul, 1) := by decide +kernel
theorem d_Model_report_80 : decode prog_13_method_58_code 80 = .ok (.iload_n 1, 1) := by decide +kernel
theorem d_Model_report_81 : decode prog_13_method_58_code 81 = .ok (.iadd, 1) := by decide +kernel
theorem d_Model_report_82 : decode prog_13_method_58_code 82 = .ok (.imul, 1) := by decide +kernel
theorem d_Model_report_83 : decode prog_13_method_58_code 83 = .ok (.invokevirtual 268, 3) := by decide +kernel
theorem d_Model_report_86 : decode prog_13_method_58_code 86 = .ok (.aload_n 0, 1) := by decide +kernel
theorem d_Model_report_87 : decode prog_13_method_58_code 87 = .ok (.iconst 5, 1) := by decide +kernel
theorem d_Model_report_88 : decode prog_13_method_58_code 88 = .ok (.iload_n 3, 1) := by decide +kernel
theorem d_Model_report_89 : decode prog_13_method_58_code 89 = .ok (.i2l, 1) := by decide +kernel
theorem d_Model_report_90 : decode prog_13_method_58_code 90 = .ok (.lconst 0, 1) := by decide +kernel
theorem d_Model_report_91 : decode prog_13_method_58_code 91 = .ok (.invokevirtual 104, 3) := by decide +kernel
theorem d_Model_report_94 : decode prog_13_method_58_code 94 = .ok (.aload_n 0, 1) := by decide +kernel
theorem d_Model_report_95 : decode prog_13_method_58_code 95 = .ok (.bipush 6, 2) := by decide +kernel
theorem d_Model_report_97 : decode prog_13_method_58_code 97 = .ok (.iconst 4, 1) := by decide +kernel
theorem d_Model_report_98 : decode prog_13_method_58_code 98 = .ok (.invokevirtual 112, 3) := by decide +kernel
theorem d_Model_report_101 : decode prog_13_method_58_code 101 = .ok (.aload_n 0, 1) := by decide +kernel
theorem d_Model_report_102 : decode prog_13_method_58_code 102 = .ok (.bipush 6, 2) := by decide +kernel
theorem d_Model_report_104 : decode prog_13_method_58_code 104 = .ok (.aload_n 0, 1) := by decide +kernel
theorem d_Model_report_105 : decode prog_13_method_58_code 105 = .ok (.getfield 68, 3) := by decide +kernel
theorem d_Model_report_108 : decode prog_13_method_58_code 108 = .ok (.iconst 4, 1) := by decide +kernel
theorem d_Model_report_109 : decode prog_13_method_58_code 109 = .ok (.iload 4, 2) := by decide +kernel
theorem d_Model_report_111 : decode prog_13_method_58_code 111 = .ok (.imul, 1) := by decide +kernel
theorem d_Model_report_112 : decode prog_13_method_58_code 112 = .ok (.iload_n 1, 1) := by decide +kernel
theorem d_Model_report_113 : decode prog_13_method_58_code 113 = .ok (.iadd, 1) := by decide +kernel
theorem d_Model_report_114 : decode prog_13_method_58_code 114 = .ok (.iaload, 1) := by decide +kernel
theorem d_Model_report_115 : decode prog_13_method_58_code 115 = .ok (.i2l, 1) := by decide +kernel
theorem d_Model_report_116 : decode prog_13_method_58_code 116 = .ok (.lconst 0, 1) := by decide +kernel
theorem d_Model_report_117 : decode prog_13_method_58_code 117 = .ok (.invokevirtual 104, 3) := by decide +kernel
theorem d_Model_report_120 : decode prog_13_method_58_code 120 = .ok (.aload_n 0, 1) := by decide +kernel
theorem d_Model_report_121 : decode prog_13_method_58_code 121 = .ok (.bipush 6, 2) := by decide +kernel
theorem d_Model_report_123 : decode prog_13_method_58_code 123 = .ok (.iload_n 2, 1) := by decide +kernel
theorem d_Model_report_124 : decode prog_13_method_58_code 124 = .ok (.i2l, 1) := by decide +kernel
theorem d_Model_report_125 : decode prog_13_method_58_code 125 = .ok (.lconst 0, 1) := by decide +kernel
theorem d_Model_report_126 : decode prog_13_method_58_code 126 = .ok (.invokevirtual 104, 3) := by decide +kernel
theorem d_Model_report_129 : decode prog_13_method_58_code 129 = .ok (.aload_n 0, 1) := by decide +kernel
theorem d_Model_report_130 : decode prog_13_method_58_code 130 = .ok (.iconst 5, 1) := by decide +kernel
theorem d_Model_report_131 : decode prog_13_method_58_code 131 = .ok (.bipush 6, 2) := by decide +kernel
theorem d_Model_report_133 : decode prog_13_method_58_code 133 = .ok (.invokevirtual 121, 3) := by decide +kernel
theorem d_Model_report_136 : decode prog_13_method_58_code 136 = .ok (.ifCond .le 6, 3) := by decide +kernel
theorem d_Model_report_139 : decode prog_13_method_58_code 139 = .ok (.goto 81, 3) := by decide +kernel
theorem d_Model_report_142 : decode prog_13_method_58_code 142 = .ok (.aload_n 0, 1) := by decide +kernel
theorem d_Model_report_143 : decode prog_13_method_58_code 143 = .ok (.getfield 246, 3) := by decide +kernel
theorem d_Model_report_146 : decode prog_13_method_58_code 146 = .ok (.istore 5, 2) := by decide +kernel
theorem d_Model_report_148 : decode prog_13_method_58_code 148 = .ok (.iload 5, 2) := by decide +kernel
theorem d_Model_report_150 : decode prog_13_method_58_code 150 = .ok (.ifCond .le 51, 3) := by decide +kernel
theorem d_Model_report_153 : decode prog_13_method_58_code 153 = .ok (.aload_n 0, 1) := by decide +kernel
theorem d_Model_report_154 : decode prog_13_method_58_code 154 = .ok (.iconst 4, 1) := by decide +kernel
theorem d_Model_report_155 : decode prog_13_method_58_code 155 = .ok (.iload 4, 2) := by decide +kernel
theorem d_Model_report_157 : decode prog_13_method_58_code 157 = .ok (.imul, 1) := by decide +kernel
theorem d_Model_report_158 : decode prog_13_method_58_code 158 = .ok (.iload_n 1, 1) := by decide +kernel
theorem d_Model_report_159 : decode prog_13_method_58_code 159 = .ok (.iadd, 1) := by decide +kernel
theorem d_Model_report_160 : decode prog_13_method_58_code 160 = .ok (.iconst 4, 1) := by decide +kernel
theorem d_Model_report_161 : decode prog_13_method_58_code 161 = .ok (.aload_n 0, 1) := by decide +kernel
theorem d_Model_report_162 : decode prog_13_method_58_code 162 = .ok (.getfield 71, 3) := by decide +kernel
theorem d_Model_report_165 : decode prog_13_method_58_code 165 = .ok (.iload 5, 2) := by decide +kernel
theorem d_Model_report_167 : decode prog_13_method_58_code 167 = .ok (.iconst 1, 1) := by decide +kernel
theorem d_Model_report_168 : decode prog_13_method_58_code 168 = .ok (.isub, 1) := by decide +kernel
theorem d_Model_report_169 : decode prog_13_method_58_code 169 = .ok (.iaload, 1) := by decide +kernel
theorem d_Model_report_170 : decode prog_13_method_58_code 170 = .ok (.imul, 1) := by decide +kernel
theorem d_Model_report_171 : decode prog_13_method_58_code 171 = .ok (.iload_n 1, 1) := by decide +kernel
theorem d_Model_report_172 : decode prog_13_method_58_code 172 = .ok (.iadd, 1) := by decide +kernel
theorem d_Model_report_173 : decode prog_13_method_58_code 173 = .ok (.invokevirtual 294, 3) := by decide +kernel
theorem d_Model_report_176 : decode prog_13_method_58_code 176 = .ok (.ifCond .eq 25, 3) := by decide +kernel
theorem d_Model_report_179 : decode prog_13_method_58_code 179 = .ok (.aload_n 0, 1) := by decide +kernel
theorem d_Model_report_180 : decode prog_13_method_58_code 180 = .ok (.getfield 71, 3) := by decide +kernel
theorem d_Model_report_183 : decode prog_13_method_58_code 183 = .ok (.iload 5, 2) := by decide +kernel
theorem d_Model_report_185 : decode prog_13_method_58_code 185 = .ok (.aload_n 0, 1) := by decide +kernel
theorem d_Model_report_186 : decode prog_13_method_58_code 186 = .ok (.getfield 71, 3) := by decide +kernel
theorem d_Model_report_189 : decode prog_13_method_58_code 189 = .ok (.iload 5, 2) := by decide +kernel
theorem d_Model_report_191 : decode prog_13_method_58_code 191 = .ok (.iconst 1, 1) := by decide +kernel
theorem d_Model_report_192 : decode prog_13_method_58_code 192 = .ok (.isub, 1) := by decide +kernel
theorem d_Model_report_193 : decode prog_13_method_58_code 193 = .ok (.iaload, 1) := by decide +kernel
theorem d_Model_report_194 : decode prog_13_method_58_code 194 = .ok (.iastore, 1) := by decide +kernel
theorem d_Model_report_195 : decode prog_13_method_58_code 195 = .ok (.iinc 5 (-1), 3) := by decide +kernel
theorem d_Model_report_198 : decode prog_13_method_58_code 198 = .ok (.goto (-50), 3) := by decide +kernel
theorem d_Model_report_201 : decode prog_13_method_58_code 201 = .ok (.aload_n 0, 1) := by decide +kernel
theorem d_Model_report_202 : decode prog_13_method_58_code 202 = .ok (.getfield 71, 3) := by decide +kernel
theorem d_Model_report_205 : decode prog_13_method_58_code 205 = .ok (.iload 5, 2) := by decide +kernel
theorem d_Model_report_207 : decode prog_13_method_58_code 207 = .ok (.iload 4, 2) := by decide +kernel
theorem d_Model_report_209 : decode prog_13_method_58_code 209 = .ok (.iastore, 1) := by decide +kernel
theorem d_Model_report_210 : decode prog_13_method_58_code 210 = .ok (.aload_n 0, 1) := by decide +kernel
theorem d_Model_report_211 : decode prog_13_method_58_code 211 = .ok (.dup, 1) := by decide +kernel
theorem d_Model_report_212 : decode prog_13_method_58_code 212 = .ok (.getfield 246, 3) := by decide +kernel
theorem d_Model_report_215 : decode prog_13_method_58_code 215 = .ok (.iconst 1, 1) := by decide +kernel
theorem d_Model_report_216 : decode prog_13_method_58_code 216 = .ok (.iadd, 1) := by decide +kernel
theorem d_Model_report_217 : decode prog_13_method_58_code 217 = .ok (.putfield 246, 3) := by decide +kernel
theorem d_Model_report_220 : decode prog_13_method_58_code 220 = .ok (.iinc 4 1, 3) := by decide +kernel
theorem d_Model_report_223 : decode prog_13_method_58_code 223 = .ok (.goto (-164), 3) := by decide +kernel
theorem d_Model_report_226 : decode prog_13_method_58_code 226 = .ok (.iconst 0, 1) := by decide +kernel
theorem d_Model_report_227 : decode prog_13_method_58_code 227 = .ok (.istore 4, 2) := by decide +kernel
theorem d_Model_report_229 : decode prog_13_method_58_code 229 = .ok (.iload 4, 2) := by decide +kernel
theorem d_Model_report_231 : decode prog_13_method_58_code 231 = .ok (.aload_n 0, 1) := by decide +kernel
theorem d_Model_report_232 : decode prog_13_method_58_code 232 = .ok (.getfield 246, 3) := by decide +kernel
theorem d_Model_report_235 : decode prog_13_method_58_code 235 = .ok (.if_icmp .ge 100, 3) := by decide +kernel
theorem d_Model_report_238 : decode prog_13_method_58_code 238 = .ok (.aload_n 0, 1) := by decide +kernel
theorem d_Model_report_239 : decode prog_13_method_58_code 239 = .ok (.getfield 62, 3) := by decide +kernel
theorem d_Model_report_242 : decode prog_13_method_58_code 242 = .ok (.aload_n 0, 1) := by decide +kernel
theorem d_Model_report_243 : decode prog_13_method_58_code 243 = .ok (.getfield 71, 3) := by decide +kernel
theorem d_Model_report_246 : decode prog_13_method_58_code 246 = .ok (.iload 4, 2) := by decide +kernel
theorem d_Model_report_248 : decode prog_13_method_58_code 248 = .ok (.iaload, 1) := by decide +kernel
theorem d_Model_report_249 : decode prog_13_method_58_code 249 = .ok (.iaload, 1) := by decide +kernel
theorem d_Model_report_250 : decode prog_13_method_58_code 250 = .ok (.istore 5, 2) := by decide +kernel
theorem d_Model_report_252 : decode prog_13_method_58_code 252 = .ok (.aload_n 0, 1) := by decide +kernel
theorem d_Model_report_253 : decode prog_13_method_58_code 253 = .ok (.getfield 74, 3) := by decide +kernel
theorem d_Model_report_256 : decode prog_13_method_58_code 256 = .ok (.iconst 5, 1) := by decide +kernel
theorem d_Model_report_257 : decode prog_13_method_58_code 257 = .ok (.iload 4, 2) := by decide +kernel
theorem d_Model_report_259 : decode prog_13_method_58_code 259 = .ok (.imul, 1) := by decide +kernel
theorem d_Model_report_260 : decode prog_13_method_58_code 260 = .ok (.iload 5, 2) := by decide +kernel
theorem d_Model_report_262 : decode prog_13_method_58_code 262 = .ok (.iastore, 1) := by decide +kernel
theorem d_Model_report_263 : decode prog_13_method_58_code 263 = .ok (.aload_n 0, 1) := by decide +kernel
theorem d_Model_report_264 : decode prog_13_method_58_code 264 = .ok (.getfield 74, 3) := by decide +kernel
theorem d_Model_report_267 : decode prog_13_method_58_code 267 = .ok (.iconst 5, 1) := by decide +kernel
theorem d_Model_report_268 : decode prog_13_method_58_code 268 = .ok (.iload 4, 2) := by decide +kernel
theorem d_Model_report_270 : decode prog_13_method_58_code 270 = .ok (.imul, 1) := by decide +kernel
theorem d_Model_report_271 : decode prog_13_method_58_code 271 = .ok (.iconst 1, 1) := by decide +kernel
theorem d_Model_report_272 : decode prog_13_method_58_code 272 = .ok (.iadd, 1) := by decide +kernel
theorem d_Model_report_273 : decode prog_13_method_58_code 273 = .ok (.aload_n 0, 1) := by decide +kernel
theorem d_Model_report_274 : decode prog_13_method_58_code 274 = .ok (.iload 5, 2) := by decide +kernel
theorem d_Model_report_276 : decode prog_13_method_58_code 276 = .ok (.iconst 1, 1) := by decide +kernel
theorem d_Model_report_277 : decode prog_13_method_58_code 277 = .ok (.invokevirtual 239, 3) := by decide +kernel
theorem d_Model_report_280 : decode prog_13_method_58_code 280 = .ok (.iastore, 1) := by decide +kernel
theorem d_Model_report_281 : decode prog_13_method_58_code 281 = .ok (.aload_n 0, 1) := by decide +kernel
theorem d_Model_report_282 : decode prog_13_method_58_code 282 = .ok (.getfield 74, 3) := by decide +kernel
theorem d_Model_report_285 : decode prog_13_method_58_code 285 = .ok (.iconst 5, 1) := by decide +kernel
theorem d_Model_report_286 : decode prog_13_method_58_code 286 = .ok (.iload 4, 2) := by decide +kernel
theorem d_Model_report_288 : decode prog_13_method_58_code 288 = .ok (.imul, 1) := by decide +kernel
theorem d_Model_report_289 : decode prog_13_method_58_code 289 = .ok (.iconst 2, 1) := by decide +kernel
theorem d_Model_report_290 : decode prog_13_method_58_code 290 = .ok (.iadd, 1) := by decide +kernel
theorem d_Model_report_291 : decode prog_13_method_58_code 291 = .ok (.aload_n 0, 1) := by decide +kernel
theorem d_Model_report_292 : decode prog_13_method_58_code 292 = .ok (.getfield 230, 3) := by decide +kernel
theorem d_Model_report_295 : decode prog_13_method_58_code 295 = .ok (.iastore, 1) := by decide +kernel
theorem d_Model_report_296 : decode prog_13_method_58_code 296 = .ok (.aload_n 0, 1) := by decide +kernel
theorem d_Model_report_297 : decode prog_13_method_58_code 297 = .ok (.getfield 74, 3) := by decide +kernel
theorem d_Model_report_300 : decode prog_13_method_58_code 300 = .ok (.iconst 5, 1) := by decide +kernel
theorem d_Model_report_301 : decode prog_13_method_58_code 301 = .ok (.iload 4, 2) := by decide +kernel
theorem d_Model_report_303 : decode prog_13_method_58_code 303 = .ok (.imul, 1) := by decide +kernel
theorem d_Model_report_304 : decode prog_13_method_58_code 304 = .ok (.iconst 3, 1) := by decide +kernel
theorem d_Model_report_305 : decode prog_13_method_58_code 305 = .ok (.iadd, 1) := by decide +kernel
theorem d_Model_report_306 : decode prog_13_method_58_code 306 = .ok (.aload_n 0, 1) := by decide +kernel
theorem d_Model_report_307 : decode prog_13_method_58_code 307 = .ok (.iload 5, 2) := by decide +kernel
theorem d_Model_report_309 : decode prog_13_method_58_code 309 = .ok (.iconst 0, 1) := by decide +kernel
theorem d_Model_report_310 : decode prog_13_method_58_code 310 = .ok (.invokevirtual 239, 3) := by decide +kernel
theorem d_Model_report_313 : decode prog_13_method_58_code 313 = .ok (.iastore, 1) := by decide +kernel
theorem d_Model_report_314 : decode prog_13_method_58_code 314 = .ok (.aload_n 0, 1) := by decide +kernel
theorem d_Model_report_315 : decode prog_13_method_58_code 315 = .ok (.getfield 74, 3) := by decide +kernel
theorem d_Model_report_318 : decode prog_13_method_58_code 318 = .ok (.iconst 5, 1) := by decide +kernel
theorem d_Model_report_319 : decode prog_13_method_58_code 319 = .ok (.iload 4, 2) := by decide +kernel
theorem d_Model_report_321 : decode prog_13_method_58_code 321 = .ok (.imul, 1) := by decide +kernel
theorem d_Model_report_322 : decode prog_13_method_58_code 322 = .ok (.iconst 4, 1) := by decide +kernel
theorem d_Model_report_323 : decode prog_13_method_58_code 323 = .ok (.iadd, 1) := by decide +kernel
theorem d_Model_report_324 : decode prog_13_method_58_code 324 = .ok (.aload_n 0, 1) := by decide +kernel
theorem d_Model_report_325 : decode prog_13_method_58_code 325 = .ok (.getfield 164, 3) := by decide +kernel
theorem d_Model_report_328 : decode prog_13_method_58_code 328 = .ok (.iastore, 1) := by decide +kernel
theorem d_Model_report_329 : decode prog_13_method_58_code 329 = .ok (.iinc 4 1, 3) := by decide +kernel
theorem d_Model_report_332 : decode prog_13_method_58_code 332 = .ok (.goto (-103), 3) := by decide +kernel
theorem d_Model_report_335 : decode prog_13_method_58_code 335 = .ok (.aload_n 0, 1) := by decide +kernel
theorem d_Model_report_336 : decode prog_13_method_58_code 336 = .ok (.getfield 246, 3) := by decide +kernel
theorem d_Model_report_339 : decode prog_13_method_58_code 339 = .ok (.ireturn, 1) := by decide +kernel
noncomputable def M_Model_report_b148 (x1 : Int32) (x2 : Int32) (x3 : Int32) (x4 : Int32) (x5 : Int32) (u : gSt) : Option ((Int32 × Int32 × Int32 × Int32 × Int32 × gSt) ⊕ ((Int32 × Int32 × Int32 × Int32 × Int32 × gSt))) :=
  if x5 ≤ (0 : Int32) then
    (some (.inr (x1, x2, x3, x4, x5, u)))
  else
    (gc (gIn (x5 - (1 : Int32)) (gLen 61)) <| (M_Model_isBefore (((4 : Int32) * x4) + x1) (((4 : Int32) * (u.2.2.1 61 (gIx (x5 - (1 : Int32))))) + x1) u).bind fun q173 =>
    if q173.1 = (0 : Int32) then
      (some (.inr (x1, x2, x3, x4, x5, q173.2)))
    else
      (gc (gIn (x5 - (1 : Int32)) (gLen 61)) <| gc (gIn x5 (gLen 61)) <| (some (gsA q173.2 61 (gIx x5) (q173.2.2.2.1 61 (gIx (x5 - (1 : Int32)))))).bind fun u194 =>
      some (.inl (x1, x2, x3, x4, x5 + (-1 : Int32), u194))))
set_option maxHeartbeats 4000000 in
set_option maxRecDepth 100000 in
theorem t_Model_report_b148 (C : gX "TermDeskModel" prog_13_method_58_code 6 (some .int) 5 119 R cells slots cy D ρ A p s m args meth c) {x1 : Int32} {x2 : Int32} {x3 : Int32} {x4 : Int32} {x5 : Int32} {u : gSt} {z : (Int32 × Int32 × Int32 × Int32 × Int32 × gSt) ⊕ ((Int32 × Int32 × Int32 × Int32 × Int32 × gSt))} (hM : M_Model_report_b148 x1 x2 x3 x4 x5 u = some z) (hN : ∀ x1' x2' x3' x4' x5' u', z = .inl (x1', x2', x3', x4', x5', u') → gAt p l e R s m args below meth c Q H0 cells slots cy D ρ A 6 148 [(0, .ref (ρ 42)), (1, .int (x1')), (2, .int (x2')), (3, .int (x3')), (4, .int (x4')), (5, .int (x5'))] [] (u')) (hE0 : ∀ x1' x2' x3' x4' x5' u', z = .inr (x1', x2', x3', x4', x5', u') → gAt p l e R s m args below meth c Q H0 cells slots cy D ρ A 6 201 [(0, .ref (ρ 42)), (1, .int (x1')), (2, .int (x2')), (3, .int (x3')), (4, .int (x4')), (5, .int (x5'))] [] (u')) : gAt p l e R s m args below meth c Q H0 cells slots cy D ρ A 6 148 [(0, .ref (ρ 42)), (1, .int x1), (2, .int x2), (3, .int x3), (4, .int x4), (5, .int x5)] [] u := by
  intro ls H locs hl hP hS
  have hx := C.1
  have hb := C.2.1
  unfold M_Model_report_b148 at hM
  refine lv_iload hx hb d_Model_report_148 (lv_at hl 5 rfl) ?_
  refine lv_if_le (tgt := 201) hx hb d_Model_report_150 (by decide) (fun hc150 => ?_) (fun hc150 => ?_)
  · replace hM := gi_t hc150 hM
    exact hE0 _ _ _ _ _ _ (Option.some.inj hM).symm ls H locs (lv_sub hl [0, 1, 2, 3, 4, 5] rfl) hP hS
  · replace hM := gi_f hc150 hM
    refine lv_aload_n hx hb d_Model_report_153 rfl (lv_at hl 0 rfl) ?_
    refine lv_iconst (v := (4 : Int32)) hx hb d_Model_report_154 (by decide) ?_
    refine lv_iload hx hb d_Model_report_155 (lv_at hl 4 rfl) ?_
    refine lv_imul hx hb d_Model_report_157 ?_
    refine lv_iload_n hx hb d_Model_report_158 rfl (lv_at hl 1 rfl) ?_
    refine lv_iadd hx hb d_Model_report_159 ?_
    refine lv_iconst (v := (4 : Int32)) hx hb d_Model_report_160 (by decide) ?_
    refine lv_aload_n hx hb d_Model_report_161 rfl (lv_at hl 0 rfl) ?_
    refine g_getR (b := 61) C hP gl_DeskModel_71 rfl rfl rfl d_Model_report_162 ?_
    refine lv_iload hx hb d_Model_report_165 (lv_at hl 5 rfl) ?_
    refine lv_iconst (v := (1 : Int32)) hx hb d_Model_report_167 (by decide) ?_
    refine lv_isub hx hb d_Model_report_168 ?_
    obtain ⟨hi169, hM⟩ := gc_some hM
    refine g_iald C hP rfl hi169 d_Model_report_169 ?_
    refine lv_imul hx hb d_Model_report_170 ?_
    refine lv_iload_n hx hb d_Model_report_171 rfl (lv_at hl 1 rfl) ?_
    refine lv_iadd hx hb d_Model_report_172 ?_
    obtain ⟨q173, hq173, hM⟩ := gb_some hM
    refine g_backI (g_runV (As := [.int (((4 : Int32) * x4) + x1), .int (((4 : Int32) * (u.2.2.1 61 (gIx (x5 - (1 : Int32))))) + x1)]) C hP (c_Model_isBefore C.2.2.2.2.2.2.2.2.1 hq173) gi_Model_isBefore gm_Model_294 rfl rfl (by decide) (by decide) hl.1 rfl (Nat.le_of_ble_eq_true rfl) d_Model_report_173) hS (fun H locs hP hS => ?_)
    refine lv_if_eq (tgt := 201) hx hb d_Model_report_176 (by decide) (fun hc176 => ?_) (fun hc176 => ?_)
    · replace hM := gi_t hc176 hM
      exact hE0 _ _ _ _ _ _ (Option.some.inj hM).symm ls H locs (lv_sub hl [0, 1, 2, 3, 4, 5] rfl) hP hS
    · replace hM := gi_f hc176 hM
      refine lv_aload_n hx hb d_Model_report_179 rfl (lv_at hl 0 rfl) ?_
      refine g_getR (b := 61) C hP gl_DeskModel_71 rfl rfl rfl d_Model_report_180 ?_
      refine lv_iload hx hb d_Model_report_183 (lv_at hl 5 rfl) ?_
      refine lv_aload_n hx hb d_Model_report_185 rfl (lv_at hl 0 rfl) ?_
      refine g_getR (b := 61) C hP gl_DeskModel_71 rfl rfl rfl d_Model_report_186 ?_
      refine lv_iload hx hb d_Model_report_189 (lv_at hl 5 rfl) ?_
      refine lv_iconst (v := (1 : Int32)) hx hb d_Model_report_191 (by decide) ?_
      refine lv_isub hx hb d_Model_report_192 ?_
      obtain ⟨hi193, hM⟩ := gc_some hM
      refine g_iald C hP rfl hi193 d_Model_report_193 ?_
      obtain ⟨hi194, hM⟩ := gc_some hM
      obtain ⟨u194, e194, hM⟩ := gb_some hM
      refine g_iast C hP hS rfl hi194 d_Model_report_194 (fun H locs hP hS => ?_)
      rw [Option.some.inj e194] at hP
      refine lv_iinc (k := 5) (v := x5 + (-1 : Int32)) (lv' := [(5, .int (x5 + (-1 : Int32))), (0, .ref (ρ 42)), (1, .int x1), (2, .int x2), (3, .int x3), (4, .int x4)]) hx hb d_Model_report_195 hl rfl (congrArg (fun z => x5 + z) (by decide)) (by decide) rfl (fun ls hl => ?_)
      refine lv_goto (tgt := 148) hx hb d_Model_report_198 (by decide) ?_
      exact hN _ _ _ _ _ _ (Option.some.inj hM).symm ls H locs (lv_sub hl [1, 2, 3, 4, 5, 0] rfl) hP hS
noncomputable def M_Model_report_L148 : (Int32 × Int32 × Int32 × Int32 × Int32 × gSt) → Option ((Int32 × Int32 × Int32 × Int32 × Int32 × gSt) ⊕ ((Int32 × Int32 × Int32 × Int32 × Int32 × gSt))) := fun x => M_Model_report_b148 x.1 x.2.1 x.2.2.1 x.2.2.2.1 x.2.2.2.2.1 x.2.2.2.2.2
theorem t_Model_report_L148 (C : gX "TermDeskModel" prog_13_method_58_code 6 (some .int) 5 119 R cells slots cy D ρ A p s m args meth c) {x1 : Int32} {x2 : Int32} {x3 : Int32} {x4 : Int32} {x5 : Int32} {u : gSt} {yy : (Int32 × Int32 × Int32 × Int32 × Int32 × gSt)} (hL : gLp M_Model_report_L148 (x1, x2, x3, x4, x5, u) = some yy) (hE0 : (∀ y', yy = y' → gAt p l e R s m args below meth c Q H0 cells slots cy D ρ A 6 201 [(0, .ref (ρ 42)), (1, .int (y'.1)), (2, .int (y'.2.1)), (3, .int (y'.2.2.1)), (4, .int (y'.2.2.2.1)), (5, .int (y'.2.2.2.2.1))] [] (y'.2.2.2.2.2))) : gAt p l e R s m args below meth c Q H0 cells slots cy D ρ A 6 148 [(0, .ref (ρ 42)), (1, .int x1), (2, .int x2), (3, .int x3), (4, .int x4), (5, .int x5)] [] u :=
  g_loop (f := M_Model_report_L148) (P := fun x => gAt p l e R s m args below meth c Q H0 cells slots cy D ρ A 6 148 [(0, .ref (ρ 42)), (1, .int x.1), (2, .int x.2.1), (3, .int x.2.2.1), (4, .int x.2.2.2.1), (5, .int x.2.2.2.2.1)] [] x.2.2.2.2.2) (E := fun yy => (∀ y', yy = y' → gAt p l e R s m args below meth c Q H0 cells slots cy D ρ A 6 201 [(0, .ref (ρ 42)), (1, .int (y'.1)), (2, .int (y'.2.1)), (3, .int (y'.2.2.1)), (4, .int (y'.2.2.2.1)), (5, .int (y'.2.2.2.2.1))] [] (y'.2.2.2.2.2))) (fun x z hf hN hE => t_Model_report_b148 C hf (fun x1' x2' x3' x4' x5' u' h => hN (x1', x2', x3', x4', x5', u') h) (fun x1' x2' x3' x4' x5' u' h => (hE _ h) (x1', x2', x3', x4', x5', u') rfl)) hL hE0
noncomputable def M_Model_report_b220 (x1 : Int32) (x2 : Int32) (x3 : Int32) (x4 : Int32) (u : gSt) : Option ((Int32 × Int32 × Int32 × Int32 × gSt) ⊕ ((gSt))) :=
  some (.inl (x1, x2, x3, x4 + (1 : Int32), u))
set_option maxHeartbeats 4000000 in
set_option maxRecDepth 100000 in
theorem t_Model_report_b220 (C : gX "TermDeskModel" prog_13_method_58_code 6 (some .int) 5 119 R cells slots cy D ρ A p s m args meth c) {x1 : Int32} {x2 : Int32} {x3 : Int32} {x4 : Int32} {u : gSt} {z : (Int32 × Int32 × Int32 × Int32 × gSt) ⊕ ((gSt))} (hM : M_Model_report_b220 x1 x2 x3 x4 u = some z) (hN : ∀ x1' x2' x3' x4' u', z = .inl (x1', x2', x3', x4', u') → gAt p l e R s m args below meth c Q H0 cells slots cy D ρ A 6 59 [(0, .ref (ρ 42)), (1, .int (x1')), (2, .int (x2')), (3, .int (x3')), (4, .int (x4'))] [] (u')) (hE0 : ∀ u', z = .inr u' → gAt p l e R s m args below meth c Q H0 cells slots cy D ρ A 6 226 [(0, .ref (ρ 42))] [] (u')) : gAt p l e R s m args below meth c Q H0 cells slots cy D ρ A 6 220 [(0, .ref (ρ 42)), (1, .int x1), (2, .int x2), (3, .int x3), (4, .int x4)] [] u := by
  intro ls H locs hl hP hS
  have hx := C.1
  have hb := C.2.1
  unfold M_Model_report_b220 at hM
  refine lv_iinc (k := 4) (v := x4 + (1 : Int32)) (lv' := [(4, .int (x4 + (1 : Int32))), (0, .ref (ρ 42)), (1, .int x1), (2, .int x2), (3, .int x3)]) hx hb d_Model_report_220 hl rfl (congrArg (fun z => x4 + z) (by decide)) (by decide) rfl (fun ls hl => ?_)
  refine lv_goto (tgt := 59) hx hb d_Model_report_223 (by decide) ?_
  exact hN _ _ _ _ _ (Option.some.inj hM).symm ls H locs (lv_sub hl [1, 2, 3, 4, 0] rfl) hP hS
noncomputable def M_Model_report_b59 (x1 : Int32) (x2 : Int32) (x3 : Int32) (x4 : Int32) (u : gSt) : Option ((Int32 × Int32 × Int32 × Int32 × gSt) ⊕ ((gSt))) :=
  if (u.1 42 31) ≤ x4 then
    (some (.inr u))
  else
    ((M_Model_load (5 : Int32) 59 ((20 : Int32) * (((4 : Int32) * x4) + x1)) u).bind fun q83 =>
    (M_Model_grow (5 : Int32) x3.toInt64 (0 : Int64) q83).bind fun q91 =>
    (M_Model_copyNumber (6 : Int32) (4 : Int32) q91).bind fun q98 =>
    gc (gIn (((4 : Int32) * x4) + x1) (gLen 60)) <| (M_Model_grow (6 : Int32) ((q98.2.2.1 60 (gIx (((4 : Int32) * x4) + x1))).toInt64) (0 : Int64) q98).bind fun q117 =>
    (M_Model_grow (6 : Int32) x2.toInt64 (0 : Int64) q117).bind fun q126 =>
    (M_Model_order (5 : Int32) (6 : Int32) q126).bind fun q133 =>
    if q133.1 ≤ (0 : Int32) then
      ((gLp M_Model_report_L148 (x1, x2, x3, x4, q133.2.1 42 36, q133.2)).bind fun y148 =>
      gc (gIn y148.2.2.2.2.1 (gLen 61)) <| (some (gsA y148.2.2.2.2.2 61 (gIx y148.2.2.2.2.1) y148.2.2.2.1)).bind fun u209 =>
      (some (gsF u209 42 36 ((u209.1 42 36) + (1 : Int32)))).bind fun u217 =>
      M_Model_report_b220 y148.1 y148.2.1 y148.2.2.1 y148.2.2.2.1 u217)
    else
      (M_Model_report_b220 x1 x2 x3 x4 q133.2))
set_option maxHeartbeats 4000000 in
set_option maxRecDepth 100000 in
theorem t_Model_report_b59 (C : gX "TermDeskModel" prog_13_method_58_code 6 (some .int) 5 119 R cells slots cy D ρ A p s m args meth c) {x1 : Int32} {x2 : Int32} {x3 : Int32} {x4 : Int32} {u : gSt} {z : (Int32 × Int32 × Int32 × Int32 × gSt) ⊕ ((gSt))} (hM : M_Model_report_b59 x1 x2 x3 x4 u = some z) (hN : ∀ x1' x2' x3' x4' u', z = .inl (x1', x2', x3', x4', u') → gAt p l e R s m args below meth c Q H0 cells slots cy D ρ A 6 59 [(0, .ref (ρ 42)), (1, .int (x1')), (2, .int (x2')), (3, .int (x3')), (4, .int (x4'))] [] (u')) (hE0 : ∀ u', z = .inr u' → gAt p l e R s m args below meth c Q H0 cells slots cy D ρ A 6 226 [(0, .ref (ρ 42))] [] (u')) : gAt p l e R s m args below meth c Q H0 cells slots cy D ρ A 6 59 [(0, .ref (ρ 42)), (1, .int x1), (2, .int x2), (3, .int x3), (4, .int x4)] [] u := by
  intro ls H locs hl hP hS
  have hx := C.1
  have hb := C.2.1
  unfold M_Model_report_b59 at hM
  refine lv_iload hx hb d_Model_report_59 (lv_at hl 4 rfl) ?_
  refine lv_aload_n hx hb d_Model_report_61 rfl (lv_at hl 0 rfl) ?_
  refine g_getI C hP gl_DeskModel_262 rfl rfl d_Model_report_62 ?_
  refine lv_icmp_ge (tgt := 226) hx hb d_Model_report_65 (by decide) (fun hc65 => ?_) (fun hc65 => ?_)
  · replace hM := gi_t hc65 hM
    exact hE0 _ (Option.some.inj hM).symm ls H locs (lv_sub hl [0] rfl) hP hS
  · replace hM := gi_f hc65 hM
    refine lv_aload_n hx hb d_Model_report_68 rfl (lv_at hl 0 rfl) ?_
    refine lv_iconst (v := (5 : Int32)) hx hb d_Model_report_69 (by decide) ?_
    refine lv_aload_n hx hb d_Model_report_70 rfl (lv_at hl 0 rfl) ?_
    refine g_getR (b := 59) C hP gl_DeskModel_65 rfl rfl rfl d_Model_report_71 ?_
    refine lv_bipush (v := (20 : Int32)) hx hb d_Model_report_74 (by decide) ?_
    refine lv_iconst (v := (4 : Int32)) hx hb d_Model_report_76 (by decide) ?_
    refine lv_iload hx hb d_Model_report_77 (lv_at hl 4 rfl) ?_
    refine lv_imul hx hb d_Model_report_79 ?_
    refine lv_iload_n hx hb d_Model_report_80 rfl (lv_at hl 1 rfl) ?_
    refine lv_iadd hx hb d_Model_report_81 ?_
    refine lv_imul hx hb d_Model_report_82 ?_
    obtain ⟨q83, hq83, hM⟩ := gb_some hM
    refine g_backV (g_runV (As := [.int (5 : Int32), .ref (ρ 59), .int ((20 : Int32) * (((4 : Int32) * x4) + x1))]) C hP (c_Model_load C.2.2.2.2.2.2.2.2.1 hq83) gi_Model_load gm_Model_268 rfl rfl (by decide) (by decide) hl.1 rfl (Nat.le_of_ble_eq_true rfl) d_Model_report_83) hS (fun H locs hP hS => ?_)
    refine lv_aload_n hx hb d_Model_report_86 rfl (lv_at hl 0 rfl) ?_
    refine lv_iconst (v := (5 : Int32)) hx hb d_Model_report_87 (by decide) ?_
    refine lv_iload_n hx hb d_Model_report_88 rfl (lv_at hl 3 rfl) ?_
    refine lv_i2l (v := x3.toInt64) hx hb d_Model_report_89 rfl ?_
    refine lv_lconst (v := 0) hx hb d_Model_report_90 (by decide) ?_
    obtain ⟨q91, hq91, hM⟩ := gb_some hM
    refine g_backV (g_runV (As := [.int (5 : Int32), .long x3.toInt64, .long (0 : Int64)]) C hP (c_Model_grow C.2.2.2.2.2.2.2.2.1 hq91) gi_Model_grow gm_Model_104 rfl rfl (by decide) (by decide) hl.1 rfl (Nat.le_of_ble_eq_true rfl) d_Model_report_91) hS (fun H locs hP hS => ?_)
    refine lv_aload_n hx hb d_Model_report_94 rfl (lv_at hl 0 rfl) ?_
    refine lv_bipush (v := (6 : Int32)) hx hb d_Model_report_95 (by decide) ?_
    refine lv_iconst (v := (4 : Int32)) hx hb d_Model_report_97 (by decide) ?_
    obtain ⟨q98, hq98, hM⟩ := gb_some hM
    refine g_backV (g_runV (As := [.int (6 : Int32), .int (4 : Int32)]) C hP (c_Model_copyNumber C.2.2.2.2.2.2.2.2.1 hq98) gi_Model_copyNumber gm_Model_112 rfl rfl (by decide) (by decide) hl.1 rfl (Nat.le_of_ble_eq_true rfl) d_Model_report_98) hS (fun H locs hP hS => ?_)
    refine lv_aload_n hx hb d_Model_report_101 rfl (lv_at hl 0 rfl) ?_
    refine lv_bipush (v := (6 : Int32)) hx hb d_Model_report_102 (by decide) ?_
    refine lv_aload_n hx hb d_Model_report_104 rfl (lv_at hl 0 rfl) ?_
    refine g_getR (b := 60) C hP gl_DeskModel_68 rfl rfl rfl d_Model_report_105 ?_
    refine lv_iconst (v := (4 : Int32)) hx hb d_Model_report_108 (by decide) ?_
    refine lv_iload hx hb d_Model_report_109 (lv_at hl 4 rfl) ?_
    refine lv_imul hx hb d_Model_report_111 ?_
    refine lv_iload_n hx hb d_Model_report_112 rfl (lv_at hl 1 rfl) ?_
    refine lv_iadd hx hb d_Model_report_113 ?_
    obtain ⟨hi114, hM⟩ := gc_some hM
    refine g_iald C hP rfl hi114 d_Model_report_114 ?_
    refine lv_i2l (v := (q98.2.2.1 60 (gIx (((4 : Int32) * x4) + x1))).toInt64) hx hb d_Model_report_115 rfl ?_
    refine lv_lconst (v := 0) hx hb d_Model_report_116 (by decide) ?_
    obtain ⟨q117, hq117, hM⟩ := gb_some hM
    refine g_backV (g_runV (As := [.int (6 : Int32), .long ((q98.2.2.1 60 (gIx (((4 : Int32) * x4) + x1))).toInt64), .long (0 : Int64)]) C hP (c_Model_grow C.2.2.2.2.2.2.2.2.1 hq117) gi_Model_grow gm_Model_104 rfl rfl (by decide) (by decide) hl.1 rfl (Nat.le_of_ble_eq_true rfl) d_Model_report_117) hS (fun H locs hP hS => ?_)
    refine lv_aload_n hx hb d_Model_report_120 rfl (lv_at hl 0 rfl) ?_
    refine lv_bipush (v := (6 : Int32)) hx hb d_Model_report_121 (by decide) ?_
    refine lv_iload_n hx hb d_Model_report_123 rfl (lv_at hl 2 rfl) ?_
    refine lv_i2l (v := x2.toInt64) hx hb d_Model_report_124 rfl ?_
    refine lv_lconst (v := 0) hx hb d_Model_report_125 (by decide) ?_
    obtain ⟨q126, hq126, hM⟩ := gb_some hM
    refine g_backV (g_runV (As := [.int (6 : Int32), .long x2.toInt64, .long (0 : Int64)]) C hP (c_Model_grow C.2.2.2.2.2.2.2.2.1 hq126) gi_Model_grow gm_Model_104 rfl rfl (by decide) (by decide) hl.1 rfl (Nat.le_of_ble_eq_true rfl) d_Model_report_126) hS (fun H locs hP hS => ?_)
    refine lv_aload_n hx hb d_Model_report_129 rfl (lv_at hl 0 rfl) ?_
    refine lv_iconst (v := (5 : Int32)) hx hb d_Model_report_130 (by decide) ?_
    refine lv_bipush (v := (6 : Int32)) hx hb d_Model_report_131 (by decide) ?_
    obtain ⟨q133, hq133, hM⟩ := gb_some hM
    refine g_backI (g_runV (As := [.int (5 : Int32), .int (6 : Int32)]) C hP (c_Model_order C.2.2.2.2.2.2.2.2.1 hq133) gi_Model_order gm_Model_121 rfl rfl (by decide) (by decide) hl.1 rfl (Nat.le_of_ble_eq_true rfl) d_Model_report_133) hS (fun H locs hP hS => ?_)
    refine lv_if_le (tgt := 142) hx hb d_Model_report_136 (by decide) (fun hc136 => ?_) (fun hc136 => ?_)
    · replace hM := gi_t hc136 hM
      refine lv_aload_n hx hb d_Model_report_142 rfl (lv_at hl 0 rfl) ?_
      refine g_getI C hP gl_DeskModel_246 rfl rfl d_Model_report_143 ?_
      refine lv_istore (lv' := [(5, .int (q133.2.1 42 36)), (0, .ref (ρ 42)), (1, .int x1), (2, .int x2), (3, .int x3), (4, .int x4)]) hx hb d_Model_report_146 hl (by decide) rfl (fun ls hl => ?_)
      obtain ⟨y148, hL148, hM⟩ := gb_some hM
      refine t_Model_report_L148 C hL148 (fun y148_0 hy => ?_) ls H locs (lv_sub hl [1, 2, 3, 4, 5, 0] rfl) hP hS
      · subst hy
        intro ls H locs hl hP hS
        refine lv_aload_n hx hb d_Model_report_201 rfl (lv_at hl 0 rfl) ?_
        refine g_getR (b := 61) C hP gl_DeskModel_71 rfl rfl rfl d_Model_report_202 ?_
        refine lv_iload hx hb d_Model_report_205 (lv_at hl 5 rfl) ?_
        refine lv_iload hx hb d_Model_report_207 (lv_at hl 4 rfl) ?_
        obtain ⟨hi209, hM⟩ := gc_some hM
        obtain ⟨u209, e209, hM⟩ := gb_some hM
        refine g_iast C hP hS rfl hi209 d_Model_report_209 (fun H locs hP hS => ?_)
        rw [Option.some.inj e209] at hP
        refine lv_aload_n hx hb d_Model_report_210 rfl (lv_at hl 0 rfl) ?_
        refine lv_dup hx hb d_Model_report_211 rfl ?_
        refine g_getI C hP gl_DeskModel_246 rfl rfl d_Model_report_212 ?_
        refine lv_iconst (v := (1 : Int32)) hx hb d_Model_report_215 (by decide) ?_
        refine lv_iadd hx hb d_Model_report_216 ?_
        obtain ⟨u217, e217, hM⟩ := gb_some hM
        refine g_putI C hP hS gl_DeskModel_246 rfl rfl gq_8_36 d_Model_report_217 (fun H locs hP hS => ?_)
        rw [Option.some.inj e217] at hP
        exact t_Model_report_b220 C hM hN hE0 ls H locs (lv_sub hl [0, 1, 2, 3, 4] rfl) hP hS
    · replace hM := gi_f hc136 hM
      refine lv_goto (tgt := 220) hx hb d_Model_report_139 (by decide) ?_
      exact t_Model_report_b220 C hM hN hE0 ls H locs (lv_sub hl [0, 1, 2, 3, 4] rfl) hP hS
noncomputable def M_Model_report_L59 : (Int32 × Int32 × Int32 × Int32 × gSt) → Option ((Int32 × Int32 × Int32 × Int32 × gSt) ⊕ ((gSt))) := fun x => M_Model_report_b59 x.1 x.2.1 x.2.2.1 x.2.2.2.1 x.2.2.2.2
theorem t_Model_report_L59 (C : gX "TermDeskModel" prog_13_method_58_code 6 (some .int) 5 119 R cells slots cy D ρ A p s m args meth c) {x1 : Int32} {x2 : Int32} {x3 : Int32} {x4 : Int32} {u : gSt} {yy : (gSt)} (hL : gLp M_Model_report_L59 (x1, x2, x3, x4, u) = some yy) (hE0 : (∀ y', yy = y' → gAt p l e R s m args below meth c Q H0 cells slots cy D ρ A 6 226 [(0, .ref (ρ 42))] [] (y'))) : gAt p l e R s m args below meth c Q H0 cells slots cy D ρ A 6 59 [(0, .ref (ρ 42)), (1, .int x1), (2, .int x2), (3, .int x3), (4, .int x4)] [] u :=
  g_loop (f := M_Model_report_L59) (P := fun x => gAt p l e R s m args below meth c Q H0 cells slots cy D ρ A 6 59 [(0, .ref (ρ 42)), (1, .int x.1), (2, .int x.2.1), (3, .int x.2.2.1), (4, .int x.2.2.2.1)] [] x.2.2.2.2) (E := fun yy => (∀ y', yy = y' → gAt p l e R s m args below meth c Q H0 cells slots cy D ρ A 6 226 [(0, .ref (ρ 42))] [] (y'))) (fun x z hf hN hE => t_Model_report_b59 C hf (fun x1' x2' x3' x4' u' h => hN (x1', x2', x3', x4', u') h) (fun u' h => (hE _ h) u' rfl)) hL hE0
noncomputable def M_Model_report_b229 (x4 : Int32) (u : gSt) : Option ((Int32 × gSt) ⊕ ((gSt))) :=
  if (u.1 42 36) ≤ x4 then
    (some (.inr u))
  else
    (gc (gIn x4 (gLen 61)) <| gc (gIn (u.2.2.1 61 (gIx x4)) (gLen 58)) <| gc (gIn ((5 : Int32) * x4) (gLen 62)) <| (some (gsA u 62 (gIx ((5 : Int32) * x4)) (u.2.2.1 58 (gIx (u.2.2.1 61 (gIx x4)))))).bind fun u262 =>
    (M_Model_genesAt (u.2.2.1 58 (gIx (u.2.2.1 61 (gIx x4)))) (1 : Int32) u262).bind fun q277 =>
    gc (gIn (((5 : Int32) * x4) + (1 : Int32)) (gLen 62)) <| (some (gsA q277.2 62 (gIx (((5 : Int32) * x4) + (1 : Int32))) q277.1)).bind fun u280 =>
    gc (gIn (((5 : Int32) * x4) + (2 : Int32)) (gLen 62)) <| (some (gsA u280 62 (gIx (((5 : Int32) * x4) + (2 : Int32))) (u280.1 42 21))).bind fun u295 =>
    (M_Model_genesAt (u.2.2.1 58 (gIx (u.2.2.1 61 (gIx x4)))) (0 : Int32) u295).bind fun q310 =>
    gc (gIn (((5 : Int32) * x4) + (3 : Int32)) (gLen 62)) <| (some (gsA q310.2 62 (gIx (((5 : Int32) * x4) + (3 : Int32))) q310.1)).bind fun u313 =>
    gc (gIn (((5 : Int32) * x4) + (4 : Int32)) (gLen 62)) <| (some (gsA u313 62 (gIx (((5 : Int32) * x4) + (4 : Int32))) (u313.1 42 10))).bind fun u328 =>
    some (.inl (x4 + (1 : Int32), u328)))
set_option maxHeartbeats 4000000 in
set_option maxRecDepth 100000 in
theorem t_Model_report_b229 (C : gX "TermDeskModel" prog_13_method_58_code 6 (some .int) 5 119 R cells slots cy D ρ A p s m args meth c) {x4 : Int32} {u : gSt} {z : (Int32 × gSt) ⊕ ((gSt))} (hM : M_Model_report_b229 x4 u = some z) (hN : ∀ x4' u', z = .inl (x4', u') → gAt p l e R s m args below meth c Q H0 cells slots cy D ρ A 6 229 [(0, .ref (ρ 42)), (4, .int (x4'))] [] (u')) (hE0 : ∀ u', z = .inr u' → gAt p l e R s m args below meth c Q H0 cells slots cy D ρ A 6 335 [(0, .ref (ρ 42))] [] (u')) : gAt p l e R s m args below meth c Q H0 cells slots cy D ρ A 6 229 [(0, .ref (ρ 42)), (4, .int x4)] [] u := by
  intro ls H locs hl hP hS
  have hx := C.1
  have hb := C.2.1
  unfold M_Model_report_b229 at hM
  refine lv_iload hx hb d_Model_report_229 (lv_at hl 1 rfl) ?_
  refine lv_aload_n hx hb d_Model_report_231 rfl (lv_at hl 0 rfl) ?_
  refine g_getI C hP gl_DeskModel_246 rfl rfl d_Model_report_232 ?_
  refine lv_icmp_ge (tgt := 335) hx hb d_Model_report_235 (by decide) (fun hc235 => ?_) (fun hc235 => ?_)
  · replace hM := gi_t hc235 hM
    exact hE0 _ (Option.some.inj hM).symm ls H locs (lv_sub hl [0] rfl) hP hS
  · replace hM := gi_f hc235 hM
    refine lv_aload_n hx hb d_Model_report_238 rfl (lv_at hl 0 rfl) ?_
    refine g_getR (b := 58) C hP gl_DeskModel_62 rfl rfl rfl d_Model_report_239 ?_
    refine lv_aload_n hx hb d_Model_report_242 rfl (lv_at hl 0 rfl) ?_
    refine g_getR (b := 61) C hP gl_DeskModel_71 rfl rfl rfl d_Model_report_243 ?_
    refine lv_iload hx hb d_Model_report_246 (lv_at hl 1 rfl) ?_
    obtain ⟨hi248, hM⟩ := gc_some hM
    refine g_iald C hP rfl hi248 d_Model_report_248 ?_
    obtain ⟨hi249, hM⟩ := gc_some hM
    refine g_iald C hP rfl hi249 d_Model_report_249 ?_
    refine lv_istore (lv' := [(5, .int (u.2.2.1 58 (gIx (u.2.2.1 61 (gIx x4))))), (0, .ref (ρ 42)), (4, .int x4)]) hx hb d_Model_report_250 hl (by decide) rfl (fun ls hl => ?_)
    refine lv_aload_n hx hb d_Model_report_252 rfl (lv_at hl 1 rfl) ?_
    refine g_getR (b := 62) C hP gl_DeskModel_74 rfl rfl rfl d_Model_report_253 ?_
    refine lv_iconst (v := (5 : Int32)) hx hb d_Model_report_256 (by decide) ?_
    refine lv_iload hx hb d_Model_report_257 (lv_at hl 2 rfl) ?_
    refine lv_imul hx hb d_Model_report_259 ?_
    refine lv_iload hx hb d_Model_report_260 (lv_at hl 0 rfl) ?_
    obtain ⟨hi262, hM⟩ := gc_some hM
    obtain ⟨u262, e262, hM⟩ := gb_some hM
    refine g_iast C hP hS rfl hi262 d_Model_report_262 (fun H locs hP hS => ?_)
    rw [Option.some.inj e262] at hP
    refine lv_aload_n hx hb d_Model_report_263 rfl (lv_at hl 1 rfl) ?_
    refine g_getR (b := 62) C hP gl_DeskModel_74 rfl rfl rfl d_Model_report_264 ?_
    refine lv_iconst (v := (5 : Int32)) hx hb d_Model_report_267 (by decide) ?_
    refine lv_iload hx hb d_Model_report_268 (lv_at hl 2 rfl) ?_
    refine lv_imul hx hb d_Model_report_270 ?_
    refine lv_iconst (v := (1 : Int32)) hx hb d_Model_report_271 (by decide) ?_
    refine lv_iadd hx hb d_Model_report_272 ?_
    refine lv_aload_n hx hb d_Model_report_273 rfl (lv_at hl 1 rfl) ?_
    refine lv_iload hx hb d_Model_report_274 (lv_at hl 0 rfl) ?_
    refine lv_iconst (v := (1 : Int32)) hx hb d_Model_report_276 (by decide) ?_
    obtain ⟨q277, hq277, hM⟩ := gb_some hM
    refine g_backI (g_runV (As := [.int (u.2.2.1 58 (gIx (u.2.2.1 61 (gIx x4)))), .int (1 : Int32)]) C hP (c_Model_genesAt C.2.2.2.2.2.2.2.2.1 hq277) gi_Model_genesAt gm_Model_239 rfl rfl (by decide) (by decide) hl.1 rfl (Nat.le_of_ble_eq_true rfl) d_Model_report_277) hS (fun H locs hP hS => ?_)
    obtain ⟨hi280, hM⟩ := gc_some hM
    obtain ⟨u280, e280, hM⟩ := gb_some hM
    refine g_iast C hP hS rfl hi280 d_Model_report_280 (fun H locs hP hS => ?_)
    rw [Option.some.inj e280] at hP
    refine lv_aload_n hx hb d_Model_report_281 rfl (lv_at hl 1 rfl) ?_
    refine g_getR (b := 62) C hP gl_DeskModel_74 rfl rfl rfl d_Model_report_282 ?_
    refine lv_iconst (v := (5 : Int32)) hx hb d_Model_report_285 (by decide) ?_
    refine lv_iload hx hb d_Model_report_286 (lv_at hl 2 rfl) ?_
    refine lv_imul hx hb d_Model_report_288 ?_
    refine lv_iconst (v := (2 : Int32)) hx hb d_Model_report_289 (by decide) ?_
    refine lv_iadd hx hb d_Model_report_290 ?_
    refine lv_aload_n hx hb d_Model_report_291 rfl (lv_at hl 1 rfl) ?_
    refine g_getI C hP gl_DeskModel_230 rfl rfl d_Model_report_292 ?_
    obtain ⟨hi295, hM⟩ := gc_some hM
    obtain ⟨u295, e295, hM⟩ := gb_some hM
    refine g_iast C hP hS rfl hi295 d_Model_report_295 (fun H locs hP hS => ?_)
    rw [Option.some.inj e295] at hP
    refine lv_aload_n hx hb d_Model_report_296 rfl (lv_at hl 1 rfl) ?_
    refine g_getR (b := 62) C hP gl_DeskModel_74 rfl rfl rfl d_Model_report_297 ?_
    refine lv_iconst (v := (5 : Int32)) hx hb d_Model_report_300 (by decide) ?_
    refine lv_iload hx hb d_Model_report_301 (lv_at hl 2 rfl) ?_
    refine lv_imul hx hb d_Model_report_303 ?_
    refine lv_iconst (v := (3 : Int32)) hx hb d_Model_report_304 (by decide) ?_
    refine lv_iadd hx hb d_Model_report_305 ?_
    refine lv_aload_n hx hb d_Model_report_306 rfl (lv_at hl 1 rfl) ?_
    refine lv_iload hx hb d_Model_report_307 (lv_at hl 0 rfl) ?_
    refine lv_iconst (v := (0 : Int32)) hx hb d_Model_report_309 (by decide) ?_
    obtain ⟨q310, hq310, hM⟩ := gb_some hM
    refine g_backI (g_runV (As := [.int (u.2.2.1 58 (gIx (u.2.2.1 61 (gIx x4)))), .int (0 : Int32)]) C hP (c_Model_genesAt C.2.2.2.2.2.2.2.2.1 hq310) gi_Model_genesAt gm_Model_239 rfl rfl (by decide) (by decide) hl.1 rfl (Nat.le_of_ble_eq_true rfl) d_Model_report_310) hS (fun H locs hP hS => ?_)
    obtain ⟨hi313, hM⟩ := gc_some hM
    obtain ⟨u313, e313, hM⟩ := gb_some hM
    refine g_iast C hP hS rfl hi313 d_Model_report_313 (fun H locs hP hS => ?_)
    rw [Option.some.inj e313] at hP
    refine lv_aload_n hx hb d_Model_report_314 rfl (lv_at hl 1 rfl) ?_
    refine g_getR (b := 62) C hP gl_DeskModel_74 rfl rfl rfl d_Model_report_315 ?_
    refine lv_iconst (v := (5 : Int32)) hx hb d_Model_report_318 (by decide) ?_
    refine lv_iload hx hb d_Model_report_319 (lv_at hl 2 rfl) ?_
    refine lv_imul hx hb d_Model_report_321 ?_
    refine lv_iconst (v := (4 : Int32)) hx hb d_Model_report_322 (by decide) ?_
    refine lv_iadd hx hb d_Model_report_323 ?_
    refine lv_aload_n hx hb d_Model_report_324 rfl (lv_at hl 1 rfl) ?_
    refine g_getI C hP gl_DeskModel_164 rfl rfl d_Model_report_325 ?_
    obtain ⟨hi328, hM⟩ := gc_some hM
    obtain ⟨u328, e328, hM⟩ := gb_some hM
    refine g_iast C hP hS rfl hi328 d_Model_report_328 (fun H locs hP hS => ?_)
    rw [Option.some.inj e328] at hP
    refine lv_iinc (k := 2) (v := x4 + (1 : Int32)) (lv' := [(4, .int (x4 + (1 : Int32))), (5, .int (u.2.2.1 58 (gIx (u.2.2.1 61 (gIx x4))))), (0, .ref (ρ 42))]) hx hb d_Model_report_329 hl rfl (congrArg (fun z => x4 + z) (by decide)) (by decide) rfl (fun ls hl => ?_)
    refine lv_goto (tgt := 229) hx hb d_Model_report_332 (by decide) ?_
    exact hN _ _ (Option.some.inj hM).symm ls H locs (lv_sub hl [2, 0] rfl) hP hS
noncomputable def M_Model_report_L229 : (Int32 × gSt) → Option ((Int32 × gSt) ⊕ ((gSt))) := fun x => M_Model_report_b229 x.1 x.2
theorem t_Model_report_L229 (C : gX "TermDeskModel" prog_13_method_58_code 6 (some .int) 5 119 R cells slots cy D ρ A p s m args meth c) {x4 : Int32} {u : gSt} {yy : (gSt)} (hL : gLp M_Model_report_L229 (x4, u) = some yy) (hE0 : (∀ y', yy = y' → gAt p l e R s m args below meth c Q H0 cells slots cy D ρ A 6 335 [(0, .ref (ρ 42))] [] (y'))) : gAt p l e R s m args below meth c Q H0 cells slots cy D ρ A 6 229 [(0, .ref (ρ 42)), (4, .int x4)] [] u :=
  g_loop (f := M_Model_report_L229) (P := fun x => gAt p l e R s m args below meth c Q H0 cells slots cy D ρ A 6 229 [(0, .ref (ρ 42)), (4, .int x.1)] [] x.2) (E := fun yy => (∀ y', yy = y' → gAt p l e R s m args below meth c Q H0 cells slots cy D ρ A 6 335 [(0, .ref (ρ 42))] [] (y'))) (fun x z hf hN hE => t_Model_report_b229 C hf (fun x4' u' h => hN (x4', u') h) (fun u' h => (hE _ h) u' rfl)) hL hE0
noncomputable def M_Model_report_b24 (x1 : Int32) (x2 : Int32) (x3 : Int32) (s0 : Int32) (u : gSt) : Option ((Int32 × gSt)) :=
  (M_Model_fails s0 (1 : Int32) u).bind fun q25 =>
  if q25.1 = (0 : Int32) then
    ((M_Model_rank q25.2).bind fun q34 =>
    (M_Model_rate q34).bind fun q38 =>
    (M_Model_save (4 : Int32) 63 (0 : Int32) q38).bind fun q48 =>
    (some (gsF q48 42 36 (0 : Int32))).bind fun u53 =>
    (gLp M_Model_report_L59 (x1, x2, x3, (0 : Int32), u53)).bind fun y59 =>
    (gLp M_Model_report_L229 ((0 : Int32), y59)).bind fun y229 =>
    some (y229.1 42 36, y229))
  else
    (some ((0 : Int32), q25.2))
set_option maxHeartbeats 4000000 in
set_option maxRecDepth 100000 in
theorem t_Model_report_b24 (C : gX "TermDeskModel" prog_13_method_58_code 6 (some .int) 5 119 R cells slots cy D ρ A p s m args meth c) {x1 : Int32} {x2 : Int32} {x3 : Int32} {s0 : Int32} {u : gSt} {z : (Int32 × gSt)} (hM : M_Model_report_b24 x1 x2 x3 s0 u = some z) (hR : gRtI p l e R s m args below meth c Q H0 cells slots cy D ρ A prog_13_method_58_code z.1 z.2) : gAt p l e R s m args below meth c Q H0 cells slots cy D ρ A 6 24 [(0, .ref (ρ 42)), (1, .int x1), (2, .int x2), (3, .int x3)] [.int s0, .ref (ρ 42)] u := by
  intro ls H locs hl hP hS
  have hx := C.1
  have hb := C.2.1
  unfold M_Model_report_b24 at hM
  refine lv_iconst (v := (1 : Int32)) hx hb d_Model_report_24 (by decide) ?_
  obtain ⟨q25, hq25, hM⟩ := gb_some hM
  refine g_backI (g_runV (As := [.int s0, .int (1 : Int32)]) C hP (c_Model_fails C.2.2.2.2.2.2.2.2.1 hq25) gi_Model_fails gm_Model_133 rfl rfl (by decide) (by decide) hl.1 rfl (Nat.le_of_ble_eq_true rfl) d_Model_report_25) hS (fun H locs hP hS => ?_)
  refine lv_if_eq (tgt := 33) hx hb d_Model_report_28 (by decide) (fun hc28 => ?_) (fun hc28 => ?_)
  · replace hM := gi_t hc28 hM
    refine lv_aload_n hx hb d_Model_report_33 rfl (lv_at hl 0 rfl) ?_
    obtain ⟨q34, hq34, hM⟩ := gb_some hM
    refine g_backV (g_runV (As := []) C hP (c_Model_rank C.2.2.2.2.2.2.2.2.1 hq34) gi_Model_rank gm_Model_288 rfl rfl (by decide) (by decide) hl.1 rfl (Nat.le_of_ble_eq_true rfl) d_Model_report_34) hS (fun H locs hP hS => ?_)
    refine lv_aload_n hx hb d_Model_report_37 rfl (lv_at hl 0 rfl) ?_
    obtain ⟨q38, hq38, hM⟩ := gb_some hM
    refine g_backV (g_runV (As := []) C hP (c_Model_rate C.2.2.2.2.2.2.2.2.1 hq38) gi_Model_rate gm_Model_291 rfl rfl (by decide) (by decide) hl.1 rfl (Nat.le_of_ble_eq_true rfl) d_Model_report_38) hS (fun H locs hP hS => ?_)
    refine lv_aload_n hx hb d_Model_report_41 rfl (lv_at hl 0 rfl) ?_
    refine lv_iconst (v := (4 : Int32)) hx hb d_Model_report_42 (by decide) ?_
    refine lv_aload_n hx hb d_Model_report_43 rfl (lv_at hl 0 rfl) ?_
    refine g_getR (b := 63) C hP gl_DeskModel_77 rfl rfl rfl d_Model_report_44 ?_
    refine lv_iconst (v := (0 : Int32)) hx hb d_Model_report_47 (by decide) ?_
    obtain ⟨q48, hq48, hM⟩ := gb_some hM
    refine g_backV (g_runV (As := [.int (4 : Int32), .ref (ρ 63), .int (0 : Int32)]) C hP (c_Model_save C.2.2.2.2.2.2.2.2.1 hq48) gi_Model_save gm_Model_272 rfl rfl (by decide) (by decide) hl.1 rfl (Nat.le_of_ble_eq_true rfl) d_Model_report_48) hS (fun H locs hP hS => ?_)
    refine lv_aload_n hx hb d_Model_report_51 rfl (lv_at hl 0 rfl) ?_
    refine lv_iconst (v := (0 : Int32)) hx hb d_Model_report_52 (by decide) ?_
    obtain ⟨u53, e53, hM⟩ := gb_some hM
    refine g_putI C hP hS gl_DeskModel_246 rfl rfl gq_8_36 d_Model_report_53 (fun H locs hP hS => ?_)
    rw [Option.some.inj e53] at hP
    refine lv_iconst (v := (0 : Int32)) hx hb d_Model_report_56 (by decide) ?_
    refine lv_istore (lv' := [(4, .int (0 : Int32)), (0, .ref (ρ 42)), (1, .int x1), (2, .int x2), (3, .int x3)]) hx hb d_Model_report_57 hl (by decide) rfl (fun ls hl => ?_)
    obtain ⟨y59, hL59, hM⟩ := gb_some hM
    refine t_Model_report_L59 C hL59 (fun y59_0 hy => ?_) ls H locs (lv_sub hl [1, 2, 3, 4, 0] rfl) hP hS
    · subst hy
      intro ls H locs hl hP hS
      refine lv_iconst (v := (0 : Int32)) hx hb d_Model_report_226 (by decide) ?_
      refine lv_istore (lv' := [(4, .int (0 : Int32)), (0, .ref (ρ 42))]) hx hb d_Model_report_227 hl (by decide) rfl (fun ls hl => ?_)
      obtain ⟨y229, hL229, hM⟩ := gb_some hM
      refine t_Model_report_L229 C hL229 (fun y229_0 hy => ?_) ls H locs (lv_sub hl [1, 0] rfl) hP hS
      · subst hy
        intro ls H locs hl hP hS
        refine lv_aload_n hx hb d_Model_report_335 rfl (lv_at hl 0 rfl) ?_
        refine g_getI C hP gl_DeskModel_246 rfl rfl d_Model_report_336 ?_
        obtain rfl := Option.some.inj hM
        exact hR _ ls H locs d_Model_report_339 hP hS
  · replace hM := gi_f hc28 hM
    refine lv_iconst (v := (0 : Int32)) hx hb d_Model_report_31 (by decide) ?_
    obtain rfl := Option.some.inj hM
    exact hR _ ls H locs d_Model_report_32 hP hS
noncomputable def M_Model_report_b19 (x1 : Int32) (x2 : Int32) (x3 : Int32) (u : gSt) : Option ((Int32 × gSt)) :=
  M_Model_report_b24 x1 x2 x3 (1 : Int32) u
set_option maxHeartbeats 4000000 in
set_option maxRecDepth 100000 in
theorem t_Model_report_b19 (C : gX "TermDeskModel" prog_13_method_58_code 6 (some .int) 5 119 R cells slots cy D ρ A p s m args meth c) {x1 : Int32} {x2 : Int32} {x3 : Int32} {u : gSt} {z : (Int32 × gSt)} (hM : M_Model_report_b19 x1 x2 x3 u = some z) (hR : gRtI p l e R s m args below meth c Q H0 cells slots cy D ρ A prog_13_method_58_code z.1 z.2) : gAt p l e R s m args below meth c Q H0 cells slots cy D ρ A 6 19 [(0, .ref (ρ 42)), (1, .int x1), (2, .int x2), (3, .int x3)] [.ref (ρ 42)] u := by
  intro ls H locs hl hP hS
  have hx := C.1
  have hb := C.2.1
  unfold M_Model_report_b19 at hM
  refine lv_iconst (v := (1 : Int32)) hx hb d_Model_report_19 (by decide) ?_
  refine lv_goto (tgt := 24) hx hb d_Model_report_20 (by decide) ?_
  exact t_Model_report_b24 C hM hR ls H locs (lv_sub hl [0, 1, 2, 3] rfl) hP hS
noncomputable def M_Model_report (x1 : Int32) (x2 : Int32) (x3 : Int32) (u : gSt) : Option ((Int32 × gSt)) :=
  if x1 < (0 : Int32) then
    (M_Model_report_b19 x1 x2 x3 u)
  else
    (if (3 : Int32) < x1 then
      (M_Model_report_b19 x1 x2 x3 u)
    else
      (if x2 < (0 : Int32) then
        (M_Model_report_b19 x1 x2 x3 u)
      else
        (if (1 : Int32) ≤ x3 then
          (M_Model_report_b24 x1 x2 x3 (0 : Int32) u)
        else
          (M_Model_report_b19 x1 x2 x3 u))))
set_option maxHeartbeats 4000000 in
set_option maxRecDepth 100000 in
theorem t_Model_report (C : gX "TermDeskModel" prog_13_method_58_code 6 (some .int) 5 119 R cells slots cy D ρ A p s m args meth c) {x1 : Int32} {x2 : Int32} {x3 : Int32} {u : gSt} {z : (Int32 × gSt)} (hM : M_Model_report x1 x2 x3 u = some z) (hR : gRtI p l e R s m args below meth c Q H0 cells slots cy D ρ A prog_13_method_58_code z.1 z.2) : gAt p l e R s m args below meth c Q H0 cells slots cy D ρ A 6 0 [(0, .ref (ρ 42)), (1, .int x1), (2, .int x2), (3, .int x3)] [] u := by
  intro ls H locs hl hP hS
  have hx := C.1
  have hb := C.2.1
  unfold M_Model_report at hM
  refine lv_aload_n hx hb d_Model_report_0 rfl (lv_at hl 0 rfl) ?_
  refine lv_iload_n hx hb d_Model_report_1 rfl (lv_at hl 1 rfl) ?_
  refine lv_if_lt (tgt := 19) hx hb d_Model_report_2 (by decide) (fun hc2 => ?_) (fun hc2 => ?_)
  · replace hM := gi_t hc2 hM
    exact t_Model_report_b19 C hM hR ls H locs (lv_sub hl [0, 1, 2, 3] rfl) hP hS
  · replace hM := gi_f hc2 hM
    refine lv_iload_n hx hb d_Model_report_5 rfl (lv_at hl 1 rfl) ?_
    refine lv_iconst (v := (3 : Int32)) hx hb d_Model_report_6 (by decide) ?_
    refine lv_icmp_gt (tgt := 19) hx hb d_Model_report_7 (by decide) (fun hc7 => ?_) (fun hc7 => ?_)
    · replace hM := gi_t hc7 hM
      exact t_Model_report_b19 C hM hR ls H locs (lv_sub hl [0, 1, 2, 3] rfl) hP hS
    · replace hM := gi_f hc7 hM
      refine lv_iload_n hx hb d_Model_report_10 rfl (lv_at hl 2 rfl) ?_
      refine lv_if_lt (tgt := 19) hx hb d_Model_report_11 (by decide) (fun hc11 => ?_) (fun hc11 => ?_)
      · replace hM := gi_t hc11 hM
        exact t_Model_report_b19 C hM hR ls H locs (lv_sub hl [0, 1, 2, 3] rfl) hP hS
      · replace hM := gi_f hc11 hM
        refine lv_iload_n hx hb d_Model_report_14 rfl (lv_at hl 3 rfl) ?_
        refine lv_iconst (v := (1 : Int32)) hx hb d_Model_report_15 (by decide) ?_
        refine lv_icmp_ge (tgt := 23) hx hb d_Model_report_16 (by decide) (fun hc16 => ?_) (fun hc16 => ?_)
        · replace hM := gi_t hc16 hM
          refine lv_iconst (v := (0 : Int32)) hx hb d_Model_report_23 (by decide) ?_
          exact t_Model_report_b24 C hM hR ls H locs (lv_sub hl [0, 1, 2, 3] rfl) hP hS
        · replace hM := gi_f hc16 hM
          exact t_Model_report_b19 C hM hR ls H locs (lv_sub hl [0, 1, 2, 3] rfl) hP hS
theorem c_Model_report {l : Launch} {cy : Nat → ClassId} {D : va_G} {ρ : Nat → Nat} {A : Nat → Prop} (hD : gD ρ A) {x1 : Int32} {x2 : Int32} {x3 : Int32} {u : gSt} {z : (Int32 × gSt)} (hM : M_Model_report x1 x2 x3 u = some z) : gCtI l y_Model_report prog_13_method_58_code 6 (some .int) 5 119 cy D ρ A [.ref (ρ 42), .int x1, .int x2, .int x3] u z.1 z.2 :=
  g_met (by decide) hD (Nat.le_of_ble_eq_true rfl) (fun p e s m below meth c ls X hl hP => t_Model_report X hM (fun pc ls H locs hd hP hS => g_iret X hP hS hd) ls _ [] hl hP va_S.rf)
end
section
variable {p : Program} {l : Launch} {e : Env} {R : Room} {s : State} {m : MethodId} {args : Array Value} {below : List Frame} {meth : Method} {c : Code} {Q : State → Prop} {H0 : Heap} {cells slots : Nat} {cy : Nat → ClassId} {D : va_G} {ρ : Nat → Nat} {A : Nat → Prop}
def y_Model_row : MethodName := ⟨"TermDeskModel", "row", "(II)I"⟩
theorem gi_Model_row : gMi y_Model_row prog_13_method_60_code 3 (some .int) 2 8 := ⟨(gWs_at 1383 (by decide +kernel) (by decide +kernel)), (gWs_at 1381 (by decide +kernel) (by decide +kernel)), (gWs_at 1382 (by decide +kernel) (by decide +kernel)), (gWs_at 125 (by decide +kernel) (by decide +kernel)), ⟨by decide +kernel, by decide +kernel, by decide +kernel⟩, _, _, rfl⟩
theorem gm_Law_102 : gMk "TermDeskLaw" 102 y_Model_row := Or.inl (gWs_at 1380 (by decide +kernel) (by decide +kernel))
theorem d_Model_row_0 : decode prog_13_method_60_code 0 = .ok (.aload_n 0, 1) := by decide +kernel
theorem d_Model_row_1 : decode prog_13_method_60_code 1 = .ok (.iload_n 1, 1) := by decide +kernel
theorem d_Model_row_2 : decode prog_13_method_60_code 2 = .ok (.ifCond .lt 11, 3) := by decide +kernel
theorem d_Model_row_5 : decode prog_13_method_60_code 5 = .ok (.iload_n 1, 1) := by decide +kernel
theorem d_Model_row_6 : decode prog_13_method_60_code 6 = .ok (.aload_n 0, 1) := by decide +kernel
theorem d_Model_row_7 : decode prog_13_method_60_code 7 = .ok (.getfield 246, 3) := by decide +kernel
theorem d_Model_row_10 : decode prog_13_method_60_code 10 = .ok (.if_icmp .lt 7, 3) := by decide +kernel
theorem d_Model_row_13 : decode prog_13_method_60_code 13 = .ok (.iconst 1, 1) := by decide +kernel
theorem d_Model_row_14 : decode prog_13_method_60_code 14 = .ok (.goto 4, 3) := by decide +kernel
theorem d_Model_row_17 : decode prog_13_method_60_code 17 = .ok (.iconst 0, 1) := by decide +kernel
theorem d_Model_row_18 : decode prog_13_method_60_code 18 = .ok (.iconst 1, 1) := by decide +kernel
theorem d_Model_row_19 : decode prog_13_method_60_code 19 = .ok (.invokevirtual 133, 3) := by decide +kernel
theorem d_Model_row_22 : decode prog_13_method_60_code 22 = .ok (.ifCond .ne 25, 3) := by decide +kernel
theorem d_Model_row_25 : decode prog_13_method_60_code 25 = .ok (.aload_n 0, 1) := by decide +kernel
theorem d_Model_row_26 : decode prog_13_method_60_code 26 = .ok (.iload_n 2, 1) := by decide +kernel
theorem d_Model_row_27 : decode prog_13_method_60_code 27 = .ok (.ifCond .lt 8, 3) := by decide +kernel
theorem d_Model_row_30 : decode prog_13_method_60_code 30 = .ok (.iload_n 2, 1) := by decide +kernel
theorem d_Model_row_31 : decode prog_13_method_60_code 31 = .ok (.iconst 4, 1) := by decide +kernel
theorem d_Model_row_32 : decode prog_13_method_60_code 32 = .ok (.if_icmp .le 7, 3) := by decide +kernel
theorem d_Model_row_35 : decode prog_13_method_60_code 35 = .ok (.iconst 1, 1) := by decide +kernel
theorem d_Model_row_36 : decode prog_13_method_60_code 36 = .ok (.goto 4, 3) := by decide +kernel
theorem d_Model_row_39 : decode prog_13_method_60_code 39 = .ok (.iconst 0, 1) := by decide +kernel
theorem d_Model_row_40 : decode prog_13_method_60_code 40 = .ok (.iconst 2, 1) := by decide +kernel
theorem d_Model_row_41 : decode prog_13_method_60_code 41 = .ok (.invokevirtual 133, 3) := by decide +kernel
theorem d_Model_row_44 : decode prog_13_method_60_code 44 = .ok (.ifCond .eq 5, 3) := by decide +kernel
theorem d_Model_row_47 : decode prog_13_method_60_code 47 = .ok (.iconst 0, 1) := by decide +kernel
theorem d_Model_row_48 : decode prog_13_method_60_code 48 = .ok (.ireturn, 1) := by decide +kernel
theorem d_Model_row_49 : decode prog_13_method_60_code 49 = .ok (.aload_n 0, 1) := by decide +kernel
theorem d_Model_row_50 : decode prog_13_method_60_code 50 = .ok (.getfield 74, 3) := by decide +kernel
theorem d_Model_row_53 : decode prog_13_method_60_code 53 = .ok (.iconst 5, 1) := by decide +kernel
theorem d_Model_row_54 : decode prog_13_method_60_code 54 = .ok (.iload_n 1, 1) := by decide +kernel
theorem d_Model_row_55 : decode prog_13_method_60_code 55 = .ok (.imul, 1) := by decide +kernel
theorem d_Model_row_56 : decode prog_13_method_60_code 56 = .ok (.iload_n 2, 1) := by decide +kernel
theorem d_Model_row_57 : decode prog_13_method_60_code 57 = .ok (.iadd, 1) := by decide +kernel
theorem d_Model_row_58 : decode prog_13_method_60_code 58 = .ok (.iaload, 1) := by decide +kernel
theorem d_Model_row_59 : decode prog_13_method_60_code 59 = .ok (.ireturn, 1) := by decide +kernel
noncomputable def M_Model_row_b47 (u : gSt) : Option ((Int32 × gSt)) :=
  some ((0 : Int32), u)
set_option maxHeartbeats 4000000 in
set_option maxRecDepth 100000 in
theorem t_Model_row_b47 (C : gX "TermDeskModel" prog_13_method_60_code 3 (some .int) 1 22 R cells slots cy D ρ A p s m args meth c) {u : gSt} {z : (Int32 × gSt)} (hM : M_Model_row_b47 u = some z) (hR : gRtI p l e R s m args below meth c Q H0 cells slots cy D ρ A prog_13_method_60_code z.1 z.2) : gAt p l e R s m args below meth c Q H0 cells slots cy D ρ A 3 47 [] [] u := by
  intro ls H locs hl hP hS
  have hx := C.1
  have hb := C.2.1
  unfold M_Model_row_b47 at hM
  refine lv_iconst (v := (0 : Int32)) hx hb d_Model_row_47 (by decide) ?_
  obtain rfl := Option.some.inj hM
  exact hR _ ls H locs d_Model_row_48 hP hS
noncomputable def M_Model_row_b40 (x1 : Int32) (x2 : Int32) (s0 : Int32) (u : gSt) : Option ((Int32 × gSt)) :=
  (M_Model_fails s0 (2 : Int32) u).bind fun q41 =>
  if q41.1 = (0 : Int32) then
    (gc (gIn (((5 : Int32) * x1) + x2) (gLen 62)) <| some (q41.2.2.2.1 62 (gIx (((5 : Int32) * x1) + x2)), q41.2))
  else
    (M_Model_row_b47 q41.2)
set_option maxHeartbeats 4000000 in
set_option maxRecDepth 100000 in
theorem t_Model_row_b40 (C : gX "TermDeskModel" prog_13_method_60_code 3 (some .int) 1 22 R cells slots cy D ρ A p s m args meth c) {x1 : Int32} {x2 : Int32} {s0 : Int32} {u : gSt} {z : (Int32 × gSt)} (hM : M_Model_row_b40 x1 x2 s0 u = some z) (hR : gRtI p l e R s m args below meth c Q H0 cells slots cy D ρ A prog_13_method_60_code z.1 z.2) : gAt p l e R s m args below meth c Q H0 cells slots cy D ρ A 3 40 [(0, .ref (ρ 42)), (1, .int x1), (2, .int x2)] [.int s0, .ref (ρ 42)] u := by
  intro ls H locs hl hP hS
  have hx := C.1
  have hb := C.2.1
  unfold M_Model_row_b40 at hM
  refine lv_iconst (v := (2 : Int32)) hx hb d_Model_row_40 (by decide) ?_
  obtain ⟨q41, hq41, hM⟩ := gb_some hM
  refine g_backI (g_runV (As := [.int s0, .int (2 : Int32)]) C hP (c_Model_fails C.2.2.2.2.2.2.2.2.1 hq41) gi_Model_fails gm_Model_133 rfl rfl (by decide) (by decide) hl.1 rfl (Nat.le_of_ble_eq_true rfl) d_Model_row_41) hS (fun H locs hP hS => ?_)
  refine lv_if_eq (tgt := 49) hx hb d_Model_row_44 (by decide) (fun hc44 => ?_) (fun hc44 => ?_)
  · replace hM := gi_t hc44 hM
    refine lv_aload_n hx hb d_Model_row_49 rfl (lv_at hl 0 rfl) ?_
    refine g_getR (b := 62) C hP gl_DeskModel_74 rfl rfl rfl d_Model_row_50 ?_
    refine lv_iconst (v := (5 : Int32)) hx hb d_Model_row_53 (by decide) ?_
    refine lv_iload_n hx hb d_Model_row_54 rfl (lv_at hl 1 rfl) ?_
    refine lv_imul hx hb d_Model_row_55 ?_
    refine lv_iload_n hx hb d_Model_row_56 rfl (lv_at hl 2 rfl) ?_
    refine lv_iadd hx hb d_Model_row_57 ?_
    obtain ⟨hi58, hM⟩ := gc_some hM
    refine g_iald C hP rfl hi58 d_Model_row_58 ?_
    obtain rfl := Option.some.inj hM
    exact hR _ ls H locs d_Model_row_59 hP hS
  · replace hM := gi_f hc44 hM
    exact t_Model_row_b47 C hM hR ls H locs (lv_sub hl [] rfl) hP hS
noncomputable def M_Model_row_b35 (x1 : Int32) (x2 : Int32) (u : gSt) : Option ((Int32 × gSt)) :=
  M_Model_row_b40 x1 x2 (1 : Int32) u
set_option maxHeartbeats 4000000 in
set_option maxRecDepth 100000 in
theorem t_Model_row_b35 (C : gX "TermDeskModel" prog_13_method_60_code 3 (some .int) 1 22 R cells slots cy D ρ A p s m args meth c) {x1 : Int32} {x2 : Int32} {u : gSt} {z : (Int32 × gSt)} (hM : M_Model_row_b35 x1 x2 u = some z) (hR : gRtI p l e R s m args below meth c Q H0 cells slots cy D ρ A prog_13_method_60_code z.1 z.2) : gAt p l e R s m args below meth c Q H0 cells slots cy D ρ A 3 35 [(0, .ref (ρ 42)), (1, .int x1), (2, .int x2)] [.ref (ρ 42)] u := by
  intro ls H locs hl hP hS
  have hx := C.1
  have hb := C.2.1
  unfold M_Model_row_b35 at hM
  refine lv_iconst (v := (1 : Int32)) hx hb d_Model_row_35 (by decide) ?_
  refine lv_goto (tgt := 40) hx hb d_Model_row_36 (by decide) ?_
  exact t_Model_row_b40 C hM hR ls H locs (lv_sub hl [0, 1, 2] rfl) hP hS
noncomputable def M_Model_row_b18 (x1 : Int32) (x2 : Int32) (s0 : Int32) (u : gSt) : Option ((Int32 × gSt)) :=
  (M_Model_fails s0 (1 : Int32) u).bind fun q19 =>
  if q19.1 = (0 : Int32) then
    (if x2 < (0 : Int32) then
      (M_Model_row_b35 x1 x2 q19.2)
    else
      (if x2 ≤ (4 : Int32) then
        (M_Model_row_b40 x1 x2 (0 : Int32) q19.2)
      else
        (M_Model_row_b35 x1 x2 q19.2)))
  else
    (M_Model_row_b47 q19.2)
set_option maxHeartbeats 4000000 in
set_option maxRecDepth 100000 in
theorem t_Model_row_b18 (C : gX "TermDeskModel" prog_13_method_60_code 3 (some .int) 1 22 R cells slots cy D ρ A p s m args meth c) {x1 : Int32} {x2 : Int32} {s0 : Int32} {u : gSt} {z : (Int32 × gSt)} (hM : M_Model_row_b18 x1 x2 s0 u = some z) (hR : gRtI p l e R s m args below meth c Q H0 cells slots cy D ρ A prog_13_method_60_code z.1 z.2) : gAt p l e R s m args below meth c Q H0 cells slots cy D ρ A 3 18 [(0, .ref (ρ 42)), (1, .int x1), (2, .int x2)] [.int s0, .ref (ρ 42)] u := by
  intro ls H locs hl hP hS
  have hx := C.1
  have hb := C.2.1
  unfold M_Model_row_b18 at hM
  refine lv_iconst (v := (1 : Int32)) hx hb d_Model_row_18 (by decide) ?_
  obtain ⟨q19, hq19, hM⟩ := gb_some hM
  refine g_backI (g_runV (As := [.int s0, .int (1 : Int32)]) C hP (c_Model_fails C.2.2.2.2.2.2.2.2.1 hq19) gi_Model_fails gm_Model_133 rfl rfl (by decide) (by decide) hl.1 rfl (Nat.le_of_ble_eq_true rfl) d_Model_row_19) hS (fun H locs hP hS => ?_)
  refine lv_if_ne (tgt := 47) hx hb d_Model_row_22 (by decide) (fun hc22 => ?_) (fun hc22 => ?_)
  · replace hM := gi_f hc22 hM
    exact t_Model_row_b47 C hM hR ls H locs (lv_sub hl [] rfl) hP hS
  · replace hM := gi_t hc22 hM
    refine lv_aload_n hx hb d_Model_row_25 rfl (lv_at hl 0 rfl) ?_
    refine lv_iload_n hx hb d_Model_row_26 rfl (lv_at hl 2 rfl) ?_
    refine lv_if_lt (tgt := 35) hx hb d_Model_row_27 (by decide) (fun hc27 => ?_) (fun hc27 => ?_)
    · replace hM := gi_t hc27 hM
      exact t_Model_row_b35 C hM hR ls H locs (lv_sub hl [0, 1, 2] rfl) hP hS
    · replace hM := gi_f hc27 hM
      refine lv_iload_n hx hb d_Model_row_30 rfl (lv_at hl 2 rfl) ?_
      refine lv_iconst (v := (4 : Int32)) hx hb d_Model_row_31 (by decide) ?_
      refine lv_icmp_le (tgt := 39) hx hb d_Model_row_32 (by decide) (fun hc32 => ?_) (fun hc32 => ?_)
      · replace hM := gi_t hc32 hM
        refine lv_iconst (v := (0 : Int32)) hx hb d_Model_row_39 (by decide) ?_
        exact t_Model_row_b40 C hM hR ls H locs (lv_sub hl [0, 1, 2] rfl) hP hS
      · replace hM := gi_f hc32 hM
        exact t_Model_row_b35 C hM hR ls H locs (lv_sub hl [0, 1, 2] rfl) hP hS
noncomputable def M_Model_row_b13 (x1 : Int32) (x2 : Int32) (u : gSt) : Option ((Int32 × gSt)) :=
  M_Model_row_b18 x1 x2 (1 : Int32) u
set_option maxHeartbeats 4000000 in
set_option maxRecDepth 100000 in
theorem t_Model_row_b13 (C : gX "TermDeskModel" prog_13_method_60_code 3 (some .int) 1 22 R cells slots cy D ρ A p s m args meth c) {x1 : Int32} {x2 : Int32} {u : gSt} {z : (Int32 × gSt)} (hM : M_Model_row_b13 x1 x2 u = some z) (hR : gRtI p l e R s m args below meth c Q H0 cells slots cy D ρ A prog_13_method_60_code z.1 z.2) : gAt p l e R s m args below meth c Q H0 cells slots cy D ρ A 3 13 [(0, .ref (ρ 42)), (1, .int x1), (2, .int x2)] [.ref (ρ 42)] u := by
  intro ls H locs hl hP hS
  have hx := C.1
  have hb := C.2.1
  unfold M_Model_row_b13 at hM
  refine lv_iconst (v := (1 : Int32)) hx hb d_Model_row_13 (by decide) ?_
  refine lv_goto (tgt := 18) hx hb d_Model_row_14 (by decide) ?_
  exact t_Model_row_b18 C hM hR ls H locs (lv_sub hl [0, 1, 2] rfl) hP hS
noncomputable def M_Model_row (x1 : Int32) (x2 : Int32) (u : gSt) : Option ((Int32 × gSt)) :=
  if x1 < (0 : Int32) then
    (M_Model_row_b13 x1 x2 u)
  else
    (if x1 < (u.1 42 36) then
      (M_Model_row_b18 x1 x2 (0 : Int32) u)
    else
      (M_Model_row_b13 x1 x2 u))
set_option maxHeartbeats 4000000 in
set_option maxRecDepth 100000 in
theorem t_Model_row (C : gX "TermDeskModel" prog_13_method_60_code 3 (some .int) 1 22 R cells slots cy D ρ A p s m args meth c) {x1 : Int32} {x2 : Int32} {u : gSt} {z : (Int32 × gSt)} (hM : M_Model_row x1 x2 u = some z) (hR : gRtI p l e R s m args below meth c Q H0 cells slots cy D ρ A prog_13_method_60_code z.1 z.2) : gAt p l e R s m args below meth c Q H0 cells slots cy D ρ A 3 0 [(0, .ref (ρ 42)), (1, .int x1), (2, .int x2)] [] u := by
  intro ls H locs hl hP hS
  have hx := C.1
  have hb := C.2.1
  unfold M_Model_row at hM
  refine lv_aload_n hx hb d_Model_row_0 rfl (lv_at hl 0 rfl) ?_
  refine lv_iload_n hx hb d_Model_row_1 rfl (lv_at hl 1 rfl) ?_
  refine lv_if_lt (tgt := 13) hx hb d_Model_row_2 (by decide) (fun hc2 => ?_) (fun hc2 => ?_)
  · replace hM := gi_t hc2 hM
    exact t_Model_row_b13 C hM hR ls H locs (lv_sub hl [0, 1, 2] rfl) hP hS
  · replace hM := gi_f hc2 hM
    refine lv_iload_n hx hb d_Model_row_5 rfl (lv_at hl 1 rfl) ?_
    refine lv_aload_n hx hb d_Model_row_6 rfl (lv_at hl 0 rfl) ?_
    refine g_getI C hP gl_DeskModel_246 rfl rfl d_Model_row_7 ?_
    refine lv_icmp_lt (tgt := 17) hx hb d_Model_row_10 (by decide) (fun hc10 => ?_) (fun hc10 => ?_)
    · replace hM := gi_t hc10 hM
      refine lv_iconst (v := (0 : Int32)) hx hb d_Model_row_17 (by decide) ?_
      exact t_Model_row_b18 C hM hR ls H locs (lv_sub hl [0, 1, 2] rfl) hP hS
    · replace hM := gi_f hc10 hM
      exact t_Model_row_b13 C hM hR ls H locs (lv_sub hl [0, 1, 2] rfl) hP hS
theorem c_Model_row {l : Launch} {cy : Nat → ClassId} {D : va_G} {ρ : Nat → Nat} {A : Nat → Prop} (hD : gD ρ A) {x1 : Int32} {x2 : Int32} {u : gSt} {z : (Int32 × gSt)} (hM : M_Model_row x1 x2 u = some z) : gCtI l y_Model_row prog_13_method_60_code 3 (some .int) 1 22 cy D ρ A [.ref (ρ 42), .int x1, .int x2] u z.1 z.2 :=
  g_met (by decide) hD (Nat.le_of_ble_eq_true rfl) (fun p e s m below meth c ls X hl hP => t_Model_row X hM (fun pc ls H locs hd hP hS => g_iret X hP hS hd) ls _ [] hl hP va_S.rf)
end
section
variable {p : Program} {l : Launch} {e : Env} {R : Room} {s : State} {m : MethodId} {args : Array Value} {below : List Frame} {meth : Method} {c : Code} {Q : State → Prop} {H0 : Heap} {cells slots : Nat} {cy : Nat → ClassId} {D : va_G} {ρ : Nat → Nat} {A : Nat → Prop}
def y_Model_put : MethodName := ⟨"TermDeskModel", "put", "(I)V"⟩
theorem gi_Model_put : gMi y_Model_put prog_13_method_61_code 2 none 1 8 := ⟨(gWs_at 1408 (by decide +kernel) (by decide +kernel)), (gWs_at 1407 (by decide +kernel) (by decide +kernel)), (gWs_at 115 (by decide +kernel) (by decide +kernel)), (gWs_at 125 (by decide +kernel) (by decide +kernel)), ⟨by decide +kernel, by decide +kernel, by decide +kernel⟩, _, _, rfl⟩
theorem gm_Model_300 : gMk "TermDeskModel" 300 y_Model_put := Or.inl (gWs_at 1405 (by decide +kernel) (by decide +kernel))
theorem d_Model_put_0 : decode prog_13_method_61_code 0 = .ok (.aload_n 0, 1) := by decide +kernel
theorem d_Model_put_1 : decode prog_13_method_61_code 1 = .ok (.getfield 80, 3) := by decide +kernel
theorem d_Model_put_4 : decode prog_13_method_61_code 4 = .ok (.aload_n 0, 1) := by decide +kernel
theorem d_Model_put_5 : decode prog_13_method_61_code 5 = .ok (.getfield 297, 3) := by decide +kernel
theorem d_Model_put_8 : decode prog_13_method_61_code 8 = .ok (.iload_n 1, 1) := by decide +kernel
theorem d_Model_put_9 : decode prog_13_method_61_code 9 = .ok (.iastore, 1) := by decide +kernel
theorem d_Model_put_10 : decode prog_13_method_61_code 10 = .ok (.aload_n 0, 1) := by decide +kernel
theorem d_Model_put_11 : decode prog_13_method_61_code 11 = .ok (.dup, 1) := by decide +kernel
theorem d_Model_put_12 : decode prog_13_method_61_code 12 = .ok (.getfield 297, 3) := by decide +kernel
theorem d_Model_put_15 : decode prog_13_method_61_code 15 = .ok (.iconst 1, 1) := by decide +kernel
theorem d_Model_put_16 : decode prog_13_method_61_code 16 = .ok (.iadd, 1) := by decide +kernel
theorem d_Model_put_17 : decode prog_13_method_61_code 17 = .ok (.putfield 297, 3) := by decide +kernel
theorem d_Model_put_20 : decode prog_13_method_61_code 20 = .ok (.return_, 1) := by decide +kernel
noncomputable def M_Model_put (x1 : Int32) (u : gSt) : Option (gSt) :=
  gc (gIn (u.1 42 39) (gLen 64)) <| (some (gsA u 64 (gIx (u.1 42 39)) x1)).bind fun u9 =>
  (some (gsF u9 42 39 ((u9.1 42 39) + (1 : Int32)))).bind fun u17 =>
  some u17
set_option maxHeartbeats 4000000 in
set_option maxRecDepth 100000 in
theorem t_Model_put (C : gX "TermDeskModel" prog_13_method_61_code 2 none 0 0 R cells slots cy D ρ A p s m args meth c) {x1 : Int32} {u : gSt} {z : gSt} (hM : M_Model_put x1 u = some z) (hR : gRtV p l e R s m args below meth c Q H0 cells slots cy D ρ A prog_13_method_61_code z) : gAt p l e R s m args below meth c Q H0 cells slots cy D ρ A 2 0 [(0, .ref (ρ 42)), (1, .int x1)] [] u := by
  intro ls H locs hl hP hS
  have hx := C.1
  have hb := C.2.1
  unfold M_Model_put at hM
  refine lv_aload_n hx hb d_Model_put_0 rfl (lv_at hl 0 rfl) ?_
  refine g_getR (b := 64) C hP gl_DeskModel_80 rfl rfl rfl d_Model_put_1 ?_
  refine lv_aload_n hx hb d_Model_put_4 rfl (lv_at hl 0 rfl) ?_
  refine g_getI C hP gl_DeskModel_297 rfl rfl d_Model_put_5 ?_
  refine lv_iload_n hx hb d_Model_put_8 rfl (lv_at hl 1 rfl) ?_
  obtain ⟨hi9, hM⟩ := gc_some hM
  obtain ⟨u9, e9, hM⟩ := gb_some hM
  refine g_iast C hP hS rfl hi9 d_Model_put_9 (fun H locs hP hS => ?_)
  rw [Option.some.inj e9] at hP
  refine lv_aload_n hx hb d_Model_put_10 rfl (lv_at hl 0 rfl) ?_
  refine lv_dup hx hb d_Model_put_11 rfl ?_
  refine g_getI C hP gl_DeskModel_297 rfl rfl d_Model_put_12 ?_
  refine lv_iconst (v := (1 : Int32)) hx hb d_Model_put_15 (by decide) ?_
  refine lv_iadd hx hb d_Model_put_16 ?_
  obtain ⟨u17, e17, hM⟩ := gb_some hM
  refine g_putI C hP hS gl_DeskModel_297 rfl rfl gq_8_39 d_Model_put_17 (fun H locs hP hS => ?_)
  rw [Option.some.inj e17] at hP
  obtain rfl := Option.some.inj hM
  exact hR _ ls H locs d_Model_put_20 hP hS
theorem c_Model_put {l : Launch} {cy : Nat → ClassId} {D : va_G} {ρ : Nat → Nat} {A : Nat → Prop} (hD : gD ρ A) {x1 : Int32} {u : gSt} {z : gSt} (hM : M_Model_put x1 u = some z) : gCtV l y_Model_put prog_13_method_61_code 2 none 0 0 cy D ρ A [.ref (ρ 42), .int x1] u z :=
  g_met (by decide) hD (Nat.le_of_ble_eq_true rfl) (fun p e s m below meth c ls X hl hP => t_Model_put X hM (fun pc ls H locs hd hP hS => g_vret X hP hS hd) ls _ [] hl hP va_S.rf)
end
section
variable {p : Program} {l : Launch} {e : Env} {R : Room} {s : State} {m : MethodId} {args : Array Value} {below : List Frame} {meth : Method} {c : Code} {Q : State → Prop} {H0 : Heap} {cells slots : Nat} {cy : Nat → ClassId} {D : va_G} {ρ : Nat → Nat} {A : Nat → Prop}
def y_Model_say : MethodName := ⟨"TermDeskModel", "say", "(II)V"⟩
theorem gi_Model_say : gMi y_Model_say prog_13_method_62_code 7 none 2 8 := ⟨(gWs_at 1404 (by decide +kernel) (by decide +kernel)), (gWs_at 1403 (by decide +kernel) (by decide +kernel)), (gWs_at 114 (by decide +kernel) (by decide +kernel)), (gWs_at 125 (by decide +kernel) (by decide +kernel)), ⟨by decide +kernel, by decide +kernel, by decide +kernel⟩, _, _, rfl⟩
theorem gm_Model_309 : gMk "TermDeskModel" 309 y_Model_say := Or.inl (gWs_at 1401 (by decide +kernel) (by decide +kernel))
theorem d_Model_say_0 : decode prog_13_method_62_code 0 = .ok (.aload_n 0, 1) := by decide +kernel
theorem d_Model_say_1 : decode prog_13_method_62_code 1 = .ok (.getfield 297, 3) := by decide +kernel
theorem d_Model_say_4 : decode prog_13_method_62_code 4 = .ok (.istore_n 3, 1) := by decide +kernel
theorem d_Model_say_5 : decode prog_13_method_62_code 5 = .ok (.iconst 0, 1) := by decide +kernel
theorem d_Model_say_6 : decode prog_13_method_62_code 6 = .ok (.istore 4, 2) := by decide +kernel
theorem d_Model_say_8 : decode prog_13_method_62_code 8 = .ok (.aload_n 0, 1) := by decide +kernel
theorem d_Model_say_9 : decode prog_13_method_62_code 9 = .ok (.getfield 56, 3) := by decide +kernel
theorem d_Model_say_12 : decode prog_13_method_62_code 12 = .ok (.iconst 1, 1) := by decide +kernel
theorem d_Model_say_13 : decode prog_13_method_62_code 13 = .ok (.iaload, 1) := by decide +kernel
theorem d_Model_say_14 : decode prog_13_method_62_code 14 = .ok (.ifCond .gt 9, 3) := by decide +kernel
theorem d_Model_say_17 : decode prog_13_method_62_code 17 = .ok (.iload 4, 2) := by decide +kernel
theorem d_Model_say_19 : decode prog_13_method_62_code 19 = .ok (.iload_n 1, 1) := by decide +kernel
theorem d_Model_say_20 : decode prog_13_method_62_code 20 = .ok (.if_icmp .ge 43, 3) := by decide +kernel
theorem d_Model_say_23 : decode prog_13_method_62_code 23 = .ok (.iload 4, 2) := by decide +kernel
theorem d_Model_say_25 : decode prog_13_method_62_code 25 = .ok (.iload_n 2, 1) := by decide +kernel
theorem d_Model_say_26 : decode prog_13_method_62_code 26 = .ok (.if_icmp .ne 13, 3) := by decide +kernel
theorem d_Model_say_29 : decode prog_13_method_62_code 29 = .ok (.iload_n 2, 1) := by decide +kernel
theorem d_Model_say_30 : decode prog_13_method_62_code 30 = .ok (.ifCond .le 9, 3) := by decide +kernel
theorem d_Model_say_33 : decode prog_13_method_62_code 33 = .ok (.aload_n 0, 1) := by decide +kernel
theorem d_Model_say_34 : decode prog_13_method_62_code 34 = .ok (.bipush 46, 2) := by decide +kernel
theorem d_Model_say_36 : decode prog_13_method_62_code 36 = .ok (.invokevirtual 300, 3) := by decide +kernel
theorem d_Model_say_39 : decode prog_13_method_62_code 39 = .ok (.aload_n 0, 1) := by decide +kernel
theorem d_Model_say_40 : decode prog_13_method_62_code 40 = .ok (.iconst 1, 1) := by decide +kernel
theorem d_Model_say_41 : decode prog_13_method_62_code 41 = .ok (.bipush 10, 2) := by decide +kernel
theorem d_Model_say_43 : decode prog_13_method_62_code 43 = .ok (.invokevirtual 127, 3) := by decide +kernel
theorem d_Model_say_46 : decode prog_13_method_62_code 46 = .ok (.aload_n 0, 1) := by decide +kernel
theorem d_Model_say_47 : decode prog_13_method_62_code 47 = .ok (.bipush 48, 2) := by decide +kernel
theorem d_Model_say_49 : decode prog_13_method_62_code 49 = .ok (.aload_n 0, 1) := by decide +kernel
theorem d_Model_say_50 : decode prog_13_method_62_code 50 = .ok (.getfield 99, 3) := by decide +kernel
theorem d_Model_say_53 : decode prog_13_method_62_code 53 = .ok (.iadd, 1) := by decide +kernel
theorem d_Model_say_54 : decode prog_13_method_62_code 54 = .ok (.invokevirtual 300, 3) := by decide +kernel
theorem d_Model_say_57 : decode prog_13_method_62_code 57 = .ok (.iinc 4 1, 3) := by decide +kernel
theorem d_Model_say_60 : decode prog_13_method_62_code 60 = .ok (.goto (-52), 3) := by decide +kernel
theorem d_Model_say_63 : decode prog_13_method_62_code 63 = .ok (.iconst 0, 1) := by decide +kernel
theorem d_Model_say_64 : decode prog_13_method_62_code 64 = .ok (.istore 5, 2) := by decide +kernel
theorem d_Model_say_66 : decode prog_13_method_62_code 66 = .ok (.iconst 2, 1) := by decide +kernel
theorem d_Model_say_67 : decode prog_13_method_62_code 67 = .ok (.iload 5, 2) := by decide +kernel
theorem d_Model_say_69 : decode prog_13_method_62_code 69 = .ok (.imul, 1) := by decide +kernel
theorem d_Model_say_70 : decode prog_13_method_62_code 70 = .ok (.aload_n 0, 1) := by decide +kernel
theorem d_Model_say_71 : decode prog_13_method_62_code 71 = .ok (.getfield 297, 3) := by decide +kernel
theorem d_Model_say_74 : decode prog_13_method_62_code 74 = .ok (.iload_n 3, 1) := by decide +kernel
theorem d_Model_say_75 : decode prog_13_method_62_code 75 = .ok (.isub, 1) := by decide +kernel
theorem d_Model_say_76 : decode prog_13_method_62_code 76 = .ok (.iconst 1, 1) := by decide +kernel
theorem d_Model_say_77 : decode prog_13_method_62_code 77 = .ok (.isub, 1) := by decide +kernel
theorem d_Model_say_78 : decode prog_13_method_62_code 78 = .ok (.if_icmp .ge 59, 3) := by decide +kernel
theorem d_Model_say_81 : decode prog_13_method_62_code 81 = .ok (.aload_n 0, 1) := by decide +kernel
theorem d_Model_say_82 : decode prog_13_method_62_code 82 = .ok (.getfield 80, 3) := by decide +kernel
theorem d_Model_say_85 : decode prog_13_method_62_code 85 = .ok (.iload_n 3, 1) := by decide +kernel
theorem d_Model_say_86 : decode prog_13_method_62_code 86 = .ok (.iload 5, 2) := by decide +kernel
theorem d_Model_say_88 : decode prog_13_method_62_code 88 = .ok (.iadd, 1) := by decide +kernel
theorem d_Model_say_89 : decode prog_13_method_62_code 89 = .ok (.iaload, 1) := by decide +kernel
theorem d_Model_say_90 : decode prog_13_method_62_code 90 = .ok (.istore 6, 2) := by decide +kernel
theorem d_Model_say_92 : decode prog_13_method_62_code 92 = .ok (.aload_n 0, 1) := by decide +kernel
theorem d_Model_say_93 : decode prog_13_method_62_code 93 = .ok (.getfield 80, 3) := by decide +kernel
theorem d_Model_say_96 : decode prog_13_method_62_code 96 = .ok (.iload_n 3, 1) := by decide +kernel
theorem d_Model_say_97 : decode prog_13_method_62_code 97 = .ok (.iload 5, 2) := by decide +kernel
theorem d_Model_say_99 : decode prog_13_method_62_code 99 = .ok (.iadd, 1) := by decide +kernel
theorem d_Model_say_100 : decode prog_13_method_62_code 100 = .ok (.aload_n 0, 1) := by decide +kernel
theorem d_Model_say_101 : decode prog_13_method_62_code 101 = .ok (.getfield 80, 3) := by decide +kernel
theorem d_Model_say_104 : decode prog_13_method_62_code 104 = .ok (.aload_n 0, 1) := by decide +kernel
theorem d_Model_say_105 : decode prog_13_method_62_code 105 = .ok (.getfield 297, 3) := by decide +kernel
theorem d_Model_say_108 : decode prog_13_method_62_code 108 = .ok (.iconst 1, 1) := by decide +kernel
theorem d_Model_say_109 : decode prog_13_method_62_code 109 = .ok (.isub, 1) := by decide +kernel
theorem d_Model_say_110 : decode prog_13_method_62_code 110 = .ok (.iload 5, 2) := by decide +kernel
theorem d_Model_say_112 : decode prog_13_method_62_code 112 = .ok (.isub, 1) := by decide +kernel
theorem d_Model_say_113 : decode prog_13_method_62_code 113 = .ok (.iaload, 1) := by decide +kernel
theorem d_Model_say_114 : decode prog_13_method_62_code 114 = .ok (.iastore, 1) := by decide +kernel
theorem d_Model_say_115 : decode prog_13_method_62_code 115 = .ok (.aload_n 0, 1) := by decide +kernel
theorem d_Model_say_116 : decode prog_13_method_62_code 116 = .ok (.getfield 80, 3) := by decide +kernel
theorem d_Model_say_119 : decode prog_13_method_62_code 119 = .ok (.aload_n 0, 1) := by decide +kernel
theorem d_Model_say_120 : decode prog_13_method_62_code 120 = .ok (.getfield 297, 3) := by decide +kernel
theorem d_Model_say_123 : decode prog_13_method_62_code 123 = .ok (.iconst 1, 1) := by decide +kernel
theorem d_Model_say_124 : decode prog_13_method_62_code 124 = .ok (.isub, 1) := by decide +kernel
theorem d_Model_say_125 : decode prog_13_method_62_code 125 = .ok (.iload 5, 2) := by decide +kernel
theorem d_Model_say_127 : decode prog_13_method_62_code 127 = .ok (.isub, 1) := by decide +kernel
theorem d_Model_say_128 : decode prog_13_method_62_code 128 = .ok (.iload 6, 2) := by decide +kernel
theorem d_Model_say_130 : decode prog_13_method_62_code 130 = .ok (.iastore, 1) := by decide +kernel
theorem d_Model_say_131 : decode prog_13_method_62_code 131 = .ok (.iinc 5 1, 3) := by decide +kernel
theorem d_Model_say_134 : decode prog_13_method_62_code 134 = .ok (.goto (-68), 3) := by decide +kernel
theorem d_Model_say_137 : decode prog_13_method_62_code 137 = .ok (.return_, 1) := by decide +kernel
noncomputable def M_Model_say_b39 (x1 : Int32) (x2 : Int32) (x3 : Int32) (x4 : Int32) (u : gSt) : Option ((Int32 × Int32 × Int32 × Int32 × gSt) ⊕ ((Int32 × gSt))) :=
  (M_Model_lower (1 : Int32) (10 : Int32) u).bind fun q43 =>
  (M_Model_put ((48 : Int32) + (q43.1 42 28)) q43).bind fun q54 =>
  some (.inl (x1, x2, x3, x4 + (1 : Int32), q54))
set_option maxHeartbeats 4000000 in
set_option maxRecDepth 100000 in
theorem t_Model_say_b39 (C : gX "TermDeskModel" prog_13_method_62_code 7 none 2 47 R cells slots cy D ρ A p s m args meth c) {x1 : Int32} {x2 : Int32} {x3 : Int32} {x4 : Int32} {u : gSt} {z : (Int32 × Int32 × Int32 × Int32 × gSt) ⊕ ((Int32 × gSt))} (hM : M_Model_say_b39 x1 x2 x3 x4 u = some z) (hN : ∀ x1' x2' x3' x4' u', z = .inl (x1', x2', x3', x4', u') → gAt p l e R s m args below meth c Q H0 cells slots cy D ρ A 7 8 [(0, .ref (ρ 42)), (1, .int (x1')), (2, .int (x2')), (3, .int (x3')), (4, .int (x4'))] [] (u')) (hE0 : ∀ x3' u', z = .inr (x3', u') → gAt p l e R s m args below meth c Q H0 cells slots cy D ρ A 7 63 [(0, .ref (ρ 42)), (3, .int (x3'))] [] (u')) : gAt p l e R s m args below meth c Q H0 cells slots cy D ρ A 7 39 [(0, .ref (ρ 42)), (1, .int x1), (2, .int x2), (3, .int x3), (4, .int x4)] [] u := by
  intro ls H locs hl hP hS
  have hx := C.1
  have hb := C.2.1
  unfold M_Model_say_b39 at hM
  refine lv_aload_n hx hb d_Model_say_39 rfl (lv_at hl 0 rfl) ?_
  refine lv_iconst (v := (1 : Int32)) hx hb d_Model_say_40 (by decide) ?_
  refine lv_bipush (v := (10 : Int32)) hx hb d_Model_say_41 (by decide) ?_
  obtain ⟨q43, hq43, hM⟩ := gb_some hM
  refine g_backV (g_runV (As := [.int (1 : Int32), .int (10 : Int32)]) C hP (c_Model_lower C.2.2.2.2.2.2.2.2.1 hq43) gi_Model_lower gm_Model_127 rfl rfl (by decide) (by decide) hl.1 rfl (Nat.le_of_ble_eq_true rfl) d_Model_say_43) hS (fun H locs hP hS => ?_)
  refine lv_aload_n hx hb d_Model_say_46 rfl (lv_at hl 0 rfl) ?_
  refine lv_bipush (v := (48 : Int32)) hx hb d_Model_say_47 (by decide) ?_
  refine lv_aload_n hx hb d_Model_say_49 rfl (lv_at hl 0 rfl) ?_
  refine g_getI C hP gl_DeskModel_99 rfl rfl d_Model_say_50 ?_
  refine lv_iadd hx hb d_Model_say_53 ?_
  obtain ⟨q54, hq54, hM⟩ := gb_some hM
  refine g_backV (g_runV (As := [.int ((48 : Int32) + (q43.1 42 28))]) C hP (c_Model_put C.2.2.2.2.2.2.2.2.1 hq54) gi_Model_put gm_Model_300 rfl rfl (by decide) (by decide) hl.1 rfl (Nat.le_of_ble_eq_true rfl) d_Model_say_54) hS (fun H locs hP hS => ?_)
  refine lv_iinc (k := 4) (v := x4 + (1 : Int32)) (lv' := [(4, .int (x4 + (1 : Int32))), (0, .ref (ρ 42)), (1, .int x1), (2, .int x2), (3, .int x3)]) hx hb d_Model_say_57 hl rfl (congrArg (fun z => x4 + z) (by decide)) (by decide) rfl (fun ls hl => ?_)
  refine lv_goto (tgt := 8) hx hb d_Model_say_60 (by decide) ?_
  exact hN _ _ _ _ _ (Option.some.inj hM).symm ls H locs (lv_sub hl [1, 2, 3, 4, 0] rfl) hP hS
noncomputable def M_Model_say_b23 (x1 : Int32) (x2 : Int32) (x3 : Int32) (x4 : Int32) (u : gSt) : Option ((Int32 × Int32 × Int32 × Int32 × gSt) ⊕ ((Int32 × gSt))) :=
  if x4 = x2 then
    (if x2 ≤ (0 : Int32) then
      (M_Model_say_b39 x1 x2 x3 x4 u)
    else
      ((M_Model_put (46 : Int32) u).bind fun q36 =>
      M_Model_say_b39 x1 x2 x3 x4 q36))
  else
    (M_Model_say_b39 x1 x2 x3 x4 u)
set_option maxHeartbeats 4000000 in
set_option maxRecDepth 100000 in
theorem t_Model_say_b23 (C : gX "TermDeskModel" prog_13_method_62_code 7 none 2 47 R cells slots cy D ρ A p s m args meth c) {x1 : Int32} {x2 : Int32} {x3 : Int32} {x4 : Int32} {u : gSt} {z : (Int32 × Int32 × Int32 × Int32 × gSt) ⊕ ((Int32 × gSt))} (hM : M_Model_say_b23 x1 x2 x3 x4 u = some z) (hN : ∀ x1' x2' x3' x4' u', z = .inl (x1', x2', x3', x4', u') → gAt p l e R s m args below meth c Q H0 cells slots cy D ρ A 7 8 [(0, .ref (ρ 42)), (1, .int (x1')), (2, .int (x2')), (3, .int (x3')), (4, .int (x4'))] [] (u')) (hE0 : ∀ x3' u', z = .inr (x3', u') → gAt p l e R s m args below meth c Q H0 cells slots cy D ρ A 7 63 [(0, .ref (ρ 42)), (3, .int (x3'))] [] (u')) : gAt p l e R s m args below meth c Q H0 cells slots cy D ρ A 7 23 [(0, .ref (ρ 42)), (1, .int x1), (2, .int x2), (3, .int x3), (4, .int x4)] [] u := by
  intro ls H locs hl hP hS
  have hx := C.1
  have hb := C.2.1
  unfold M_Model_say_b23 at hM
  refine lv_iload hx hb d_Model_say_23 (lv_at hl 4 rfl) ?_
  refine lv_iload_n hx hb d_Model_say_25 rfl (lv_at hl 2 rfl) ?_
  refine lv_icmp_ne (tgt := 39) hx hb d_Model_say_26 (by decide) (fun hc26 => ?_) (fun hc26 => ?_)
  · replace hM := gi_f hc26 hM
    exact t_Model_say_b39 C hM hN hE0 ls H locs (lv_sub hl [0, 1, 2, 3, 4] rfl) hP hS
  · replace hM := gi_t hc26 hM
    refine lv_iload_n hx hb d_Model_say_29 rfl (lv_at hl 2 rfl) ?_
    refine lv_if_le (tgt := 39) hx hb d_Model_say_30 (by decide) (fun hc30 => ?_) (fun hc30 => ?_)
    · replace hM := gi_t hc30 hM
      exact t_Model_say_b39 C hM hN hE0 ls H locs (lv_sub hl [0, 1, 2, 3, 4] rfl) hP hS
    · replace hM := gi_f hc30 hM
      refine lv_aload_n hx hb d_Model_say_33 rfl (lv_at hl 0 rfl) ?_
      refine lv_bipush (v := (46 : Int32)) hx hb d_Model_say_34 (by decide) ?_
      obtain ⟨q36, hq36, hM⟩ := gb_some hM
      refine g_backV (g_runV (As := [.int (46 : Int32)]) C hP (c_Model_put C.2.2.2.2.2.2.2.2.1 hq36) gi_Model_put gm_Model_300 rfl rfl (by decide) (by decide) hl.1 rfl (Nat.le_of_ble_eq_true rfl) d_Model_say_36) hS (fun H locs hP hS => ?_)
      exact t_Model_say_b39 C hM hN hE0 ls H locs (lv_sub hl [0, 1, 2, 3, 4] rfl) hP hS
noncomputable def M_Model_say_b8 (x1 : Int32) (x2 : Int32) (x3 : Int32) (x4 : Int32) (u : gSt) : Option ((Int32 × Int32 × Int32 × Int32 × gSt) ⊕ ((Int32 × gSt))) :=
  gc (gIn (1 : Int32) (gLen 56)) <| if (0 : Int32) < (u.2.2.1 56 (gIx (1 : Int32))) then
    (M_Model_say_b23 x1 x2 x3 x4 u)
  else
    (if x1 ≤ x4 then
      (some (.inr (x3, u)))
    else
      (M_Model_say_b23 x1 x2 x3 x4 u))
set_option maxHeartbeats 4000000 in
set_option maxRecDepth 100000 in
theorem t_Model_say_b8 (C : gX "TermDeskModel" prog_13_method_62_code 7 none 2 47 R cells slots cy D ρ A p s m args meth c) {x1 : Int32} {x2 : Int32} {x3 : Int32} {x4 : Int32} {u : gSt} {z : (Int32 × Int32 × Int32 × Int32 × gSt) ⊕ ((Int32 × gSt))} (hM : M_Model_say_b8 x1 x2 x3 x4 u = some z) (hN : ∀ x1' x2' x3' x4' u', z = .inl (x1', x2', x3', x4', u') → gAt p l e R s m args below meth c Q H0 cells slots cy D ρ A 7 8 [(0, .ref (ρ 42)), (1, .int (x1')), (2, .int (x2')), (3, .int (x3')), (4, .int (x4'))] [] (u')) (hE0 : ∀ x3' u', z = .inr (x3', u') → gAt p l e R s m args below meth c Q H0 cells slots cy D ρ A 7 63 [(0, .ref (ρ 42)), (3, .int (x3'))] [] (u')) : gAt p l e R s m args below meth c Q H0 cells slots cy D ρ A 7 8 [(0, .ref (ρ 42)), (1, .int x1), (2, .int x2), (3, .int x3), (4, .int x4)] [] u := by
  intro ls H locs hl hP hS
  have hx := C.1
  have hb := C.2.1
  unfold M_Model_say_b8 at hM
  refine lv_aload_n hx hb d_Model_say_8 rfl (lv_at hl 0 rfl) ?_
  refine g_getR (b := 56) C hP gl_DeskModel_56 rfl rfl rfl d_Model_say_9 ?_
  refine lv_iconst (v := (1 : Int32)) hx hb d_Model_say_12 (by decide) ?_
  obtain ⟨hi13, hM⟩ := gc_some hM
  refine g_iald C hP rfl hi13 d_Model_say_13 ?_
  refine lv_if_gt (tgt := 23) hx hb d_Model_say_14 (by decide) (fun hc14 => ?_) (fun hc14 => ?_)
  · replace hM := gi_t hc14 hM
    exact t_Model_say_b23 C hM hN hE0 ls H locs (lv_sub hl [0, 1, 2, 3, 4] rfl) hP hS
  · replace hM := gi_f hc14 hM
    refine lv_iload hx hb d_Model_say_17 (lv_at hl 4 rfl) ?_
    refine lv_iload_n hx hb d_Model_say_19 rfl (lv_at hl 1 rfl) ?_
    refine lv_icmp_ge (tgt := 63) hx hb d_Model_say_20 (by decide) (fun hc20 => ?_) (fun hc20 => ?_)
    · replace hM := gi_t hc20 hM
      exact hE0 _ _ (Option.some.inj hM).symm ls H locs (lv_sub hl [0, 3] rfl) hP hS
    · replace hM := gi_f hc20 hM
      exact t_Model_say_b23 C hM hN hE0 ls H locs (lv_sub hl [0, 1, 2, 3, 4] rfl) hP hS
noncomputable def M_Model_say_L8 : (Int32 × Int32 × Int32 × Int32 × gSt) → Option ((Int32 × Int32 × Int32 × Int32 × gSt) ⊕ ((Int32 × gSt))) := fun x => M_Model_say_b8 x.1 x.2.1 x.2.2.1 x.2.2.2.1 x.2.2.2.2
theorem t_Model_say_L8 (C : gX "TermDeskModel" prog_13_method_62_code 7 none 2 47 R cells slots cy D ρ A p s m args meth c) {x1 : Int32} {x2 : Int32} {x3 : Int32} {x4 : Int32} {u : gSt} {yy : (Int32 × gSt)} (hL : gLp M_Model_say_L8 (x1, x2, x3, x4, u) = some yy) (hE0 : (∀ y', yy = y' → gAt p l e R s m args below meth c Q H0 cells slots cy D ρ A 7 63 [(0, .ref (ρ 42)), (3, .int (y'.1))] [] (y'.2))) : gAt p l e R s m args below meth c Q H0 cells slots cy D ρ A 7 8 [(0, .ref (ρ 42)), (1, .int x1), (2, .int x2), (3, .int x3), (4, .int x4)] [] u :=
  g_loop (f := M_Model_say_L8) (P := fun x => gAt p l e R s m args below meth c Q H0 cells slots cy D ρ A 7 8 [(0, .ref (ρ 42)), (1, .int x.1), (2, .int x.2.1), (3, .int x.2.2.1), (4, .int x.2.2.2.1)] [] x.2.2.2.2) (E := fun yy => (∀ y', yy = y' → gAt p l e R s m args below meth c Q H0 cells slots cy D ρ A 7 63 [(0, .ref (ρ 42)), (3, .int (y'.1))] [] (y'.2))) (fun x z hf hN hE => t_Model_say_b8 C hf (fun x1' x2' x3' x4' u' h => hN (x1', x2', x3', x4', u') h) (fun x3' u' h => (hE _ h) (x3', u') rfl)) hL hE0
noncomputable def M_Model_say_b66 (x3 : Int32) (x5 : Int32) (u : gSt) : Option ((Int32 × Int32 × gSt) ⊕ ((gSt))) :=
  if (((u.1 42 39) - x3) - (1 : Int32)) ≤ ((2 : Int32) * x5) then
    (some (.inr u))
  else
    (gc (gIn (x3 + x5) (gLen 64)) <| gc (gIn (((u.1 42 39) - (1 : Int32)) - x5) (gLen 64)) <| gc (gIn (x3 + x5) (gLen 64)) <| (some (gsA u 64 (gIx (x3 + x5)) (u.2.2.1 64 (gIx (((u.1 42 39) - (1 : Int32)) - x5))))).bind fun u114 =>
    gc (gIn (((u114.1 42 39) - (1 : Int32)) - x5) (gLen 64)) <| (some (gsA u114 64 (gIx (((u114.1 42 39) - (1 : Int32)) - x5)) (u.2.2.1 64 (gIx (x3 + x5))))).bind fun u130 =>
    some (.inl (x3, x5 + (1 : Int32), u130)))
set_option maxHeartbeats 4000000 in
set_option maxRecDepth 100000 in
theorem t_Model_say_b66 (C : gX "TermDeskModel" prog_13_method_62_code 7 none 2 47 R cells slots cy D ρ A p s m args meth c) {x3 : Int32} {x5 : Int32} {u : gSt} {z : (Int32 × Int32 × gSt) ⊕ ((gSt))} (hM : M_Model_say_b66 x3 x5 u = some z) (hN : ∀ x3' x5' u', z = .inl (x3', x5', u') → gAt p l e R s m args below meth c Q H0 cells slots cy D ρ A 7 66 [(0, .ref (ρ 42)), (3, .int (x3')), (5, .int (x5'))] [] (u')) (hE0 : ∀ u', z = .inr u' → gAt p l e R s m args below meth c Q H0 cells slots cy D ρ A 7 137 [] [] (u')) : gAt p l e R s m args below meth c Q H0 cells slots cy D ρ A 7 66 [(0, .ref (ρ 42)), (3, .int x3), (5, .int x5)] [] u := by
  intro ls H locs hl hP hS
  have hx := C.1
  have hb := C.2.1
  unfold M_Model_say_b66 at hM
  refine lv_iconst (v := (2 : Int32)) hx hb d_Model_say_66 (by decide) ?_
  refine lv_iload hx hb d_Model_say_67 (lv_at hl 2 rfl) ?_
  refine lv_imul hx hb d_Model_say_69 ?_
  refine lv_aload_n hx hb d_Model_say_70 rfl (lv_at hl 0 rfl) ?_
  refine g_getI C hP gl_DeskModel_297 rfl rfl d_Model_say_71 ?_
  refine lv_iload_n hx hb d_Model_say_74 rfl (lv_at hl 1 rfl) ?_
  refine lv_isub hx hb d_Model_say_75 ?_
  refine lv_iconst (v := (1 : Int32)) hx hb d_Model_say_76 (by decide) ?_
  refine lv_isub hx hb d_Model_say_77 ?_
  refine lv_icmp_ge (tgt := 137) hx hb d_Model_say_78 (by decide) (fun hc78 => ?_) (fun hc78 => ?_)
  · replace hM := gi_t hc78 hM
    exact hE0 _ (Option.some.inj hM).symm ls H locs (lv_sub hl [] rfl) hP hS
  · replace hM := gi_f hc78 hM
    refine lv_aload_n hx hb d_Model_say_81 rfl (lv_at hl 0 rfl) ?_
    refine g_getR (b := 64) C hP gl_DeskModel_80 rfl rfl rfl d_Model_say_82 ?_
    refine lv_iload_n hx hb d_Model_say_85 rfl (lv_at hl 1 rfl) ?_
    refine lv_iload hx hb d_Model_say_86 (lv_at hl 2 rfl) ?_
    refine lv_iadd hx hb d_Model_say_88 ?_
    obtain ⟨hi89, hM⟩ := gc_some hM
    refine g_iald C hP rfl hi89 d_Model_say_89 ?_
    refine lv_istore (lv' := [(6, .int (u.2.2.1 64 (gIx (x3 + x5)))), (0, .ref (ρ 42)), (3, .int x3), (5, .int x5)]) hx hb d_Model_say_90 hl (by decide) rfl (fun ls hl => ?_)
    refine lv_aload_n hx hb d_Model_say_92 rfl (lv_at hl 1 rfl) ?_
    refine g_getR (b := 64) C hP gl_DeskModel_80 rfl rfl rfl d_Model_say_93 ?_
    refine lv_iload_n hx hb d_Model_say_96 rfl (lv_at hl 2 rfl) ?_
    refine lv_iload hx hb d_Model_say_97 (lv_at hl 3 rfl) ?_
    refine lv_iadd hx hb d_Model_say_99 ?_
    refine lv_aload_n hx hb d_Model_say_100 rfl (lv_at hl 1 rfl) ?_
    refine g_getR (b := 64) C hP gl_DeskModel_80 rfl rfl rfl d_Model_say_101 ?_
    refine lv_aload_n hx hb d_Model_say_104 rfl (lv_at hl 1 rfl) ?_
    refine g_getI C hP gl_DeskModel_297 rfl rfl d_Model_say_105 ?_
    refine lv_iconst (v := (1 : Int32)) hx hb d_Model_say_108 (by decide) ?_
    refine lv_isub hx hb d_Model_say_109 ?_
    refine lv_iload hx hb d_Model_say_110 (lv_at hl 3 rfl) ?_
    refine lv_isub hx hb d_Model_say_112 ?_
    obtain ⟨hi113, hM⟩ := gc_some hM
    refine g_iald C hP rfl hi113 d_Model_say_113 ?_
    obtain ⟨hi114, hM⟩ := gc_some hM
    obtain ⟨u114, e114, hM⟩ := gb_some hM
    refine g_iast C hP hS rfl hi114 d_Model_say_114 (fun H locs hP hS => ?_)
    rw [Option.some.inj e114] at hP
    refine lv_aload_n hx hb d_Model_say_115 rfl (lv_at hl 1 rfl) ?_
    refine g_getR (b := 64) C hP gl_DeskModel_80 rfl rfl rfl d_Model_say_116 ?_
    refine lv_aload_n hx hb d_Model_say_119 rfl (lv_at hl 1 rfl) ?_
    refine g_getI C hP gl_DeskModel_297 rfl rfl d_Model_say_120 ?_
    refine lv_iconst (v := (1 : Int32)) hx hb d_Model_say_123 (by decide) ?_
    refine lv_isub hx hb d_Model_say_124 ?_
    refine lv_iload hx hb d_Model_say_125 (lv_at hl 3 rfl) ?_
    refine lv_isub hx hb d_Model_say_127 ?_
    refine lv_iload hx hb d_Model_say_128 (lv_at hl 0 rfl) ?_
    obtain ⟨hi130, hM⟩ := gc_some hM
    obtain ⟨u130, e130, hM⟩ := gb_some hM
    refine g_iast C hP hS rfl hi130 d_Model_say_130 (fun H locs hP hS => ?_)
    rw [Option.some.inj e130] at hP
    refine lv_iinc (k := 3) (v := x5 + (1 : Int32)) (lv' := [(5, .int (x5 + (1 : Int32))), (6, .int (u.2.2.1 64 (gIx (x3 + x5)))), (0, .ref (ρ 42)), (3, .int x3)]) hx hb d_Model_say_131 hl rfl (congrArg (fun z => x5 + z) (by decide)) (by decide) rfl (fun ls hl => ?_)
    refine lv_goto (tgt := 66) hx hb d_Model_say_134 (by decide) ?_
    exact hN _ _ _ (Option.some.inj hM).symm ls H locs (lv_sub hl [2, 3, 0] rfl) hP hS
noncomputable def M_Model_say_L66 : (Int32 × Int32 × gSt) → Option ((Int32 × Int32 × gSt) ⊕ ((gSt))) := fun x => M_Model_say_b66 x.1 x.2.1 x.2.2
theorem t_Model_say_L66 (C : gX "TermDeskModel" prog_13_method_62_code 7 none 2 47 R cells slots cy D ρ A p s m args meth c) {x3 : Int32} {x5 : Int32} {u : gSt} {yy : (gSt)} (hL : gLp M_Model_say_L66 (x3, x5, u) = some yy) (hE0 : (∀ y', yy = y' → gAt p l e R s m args below meth c Q H0 cells slots cy D ρ A 7 137 [] [] (y'))) : gAt p l e R s m args below meth c Q H0 cells slots cy D ρ A 7 66 [(0, .ref (ρ 42)), (3, .int x3), (5, .int x5)] [] u :=
  g_loop (f := M_Model_say_L66) (P := fun x => gAt p l e R s m args below meth c Q H0 cells slots cy D ρ A 7 66 [(0, .ref (ρ 42)), (3, .int x.1), (5, .int x.2.1)] [] x.2.2) (E := fun yy => (∀ y', yy = y' → gAt p l e R s m args below meth c Q H0 cells slots cy D ρ A 7 137 [] [] (y'))) (fun x z hf hN hE => t_Model_say_b66 C hf (fun x3' x5' u' h => hN (x3', x5', u') h) (fun u' h => (hE _ h) u' rfl)) hL hE0
noncomputable def M_Model_say (x1 : Int32) (x2 : Int32) (u : gSt) : Option (gSt) :=
  (gLp M_Model_say_L8 (x1, x2, u.1 42 39, (0 : Int32), u)).bind fun y8 =>
  (gLp M_Model_say_L66 (y8.1, (0 : Int32), y8.2)).bind fun y66 =>
  some y66
set_option maxHeartbeats 4000000 in
set_option maxRecDepth 100000 in
theorem t_Model_say (C : gX "TermDeskModel" prog_13_method_62_code 7 none 2 47 R cells slots cy D ρ A p s m args meth c) {x1 : Int32} {x2 : Int32} {u : gSt} {z : gSt} (hM : M_Model_say x1 x2 u = some z) (hR : gRtV p l e R s m args below meth c Q H0 cells slots cy D ρ A prog_13_method_62_code z) : gAt p l e R s m args below meth c Q H0 cells slots cy D ρ A 7 0 [(0, .ref (ρ 42)), (1, .int x1), (2, .int x2)] [] u := by
  intro ls H locs hl hP hS
  have hx := C.1
  have hb := C.2.1
  unfold M_Model_say at hM
  refine lv_aload_n hx hb d_Model_say_0 rfl (lv_at hl 0 rfl) ?_
  refine g_getI C hP gl_DeskModel_297 rfl rfl d_Model_say_1 ?_
  refine lv_istore_n (lv' := [(3, .int (u.1 42 39)), (0, .ref (ρ 42)), (1, .int x1), (2, .int x2)]) hx hb d_Model_say_4 rfl hl (by decide) rfl (fun ls hl => ?_)
  refine lv_iconst (v := (0 : Int32)) hx hb d_Model_say_5 (by decide) ?_
  refine lv_istore (lv' := [(4, .int (0 : Int32)), (3, .int (u.1 42 39)), (0, .ref (ρ 42)), (1, .int x1), (2, .int x2)]) hx hb d_Model_say_6 hl (by decide) rfl (fun ls hl => ?_)
  obtain ⟨y8, hL8, hM⟩ := gb_some hM
  refine t_Model_say_L8 C hL8 (fun y8_0 hy => ?_) ls H locs (lv_sub hl [2, 3, 4, 1, 0] rfl) hP hS
  · subst hy
    intro ls H locs hl hP hS
    refine lv_iconst (v := (0 : Int32)) hx hb d_Model_say_63 (by decide) ?_
    refine lv_istore (lv' := [(5, .int (0 : Int32)), (0, .ref (ρ 42)), (3, .int y8.1)]) hx hb d_Model_say_64 hl (by decide) rfl (fun ls hl => ?_)
    obtain ⟨y66, hL66, hM⟩ := gb_some hM
    refine t_Model_say_L66 C hL66 (fun y66_0 hy => ?_) ls H locs (lv_sub hl [1, 2, 0] rfl) hP hS
    · subst hy
      intro ls H locs hl hP hS
      obtain rfl := Option.some.inj hM
      exact hR _ ls H locs d_Model_say_137 hP hS
theorem c_Model_say {l : Launch} {cy : Nat → ClassId} {D : va_G} {ρ : Nat → Nat} {A : Nat → Prop} (hD : gD ρ A) {x1 : Int32} {x2 : Int32} {u : gSt} {z : gSt} (hM : M_Model_say x1 x2 u = some z) : gCtV l y_Model_say prog_13_method_62_code 7 none 2 47 cy D ρ A [.ref (ρ 42), .int x1, .int x2] u z :=
  g_met (by decide) hD (Nat.le_of_ble_eq_true rfl) (fun p e s m below meth c ls X hl hP => t_Model_say X hM (fun pc ls H locs hd hP hS => g_vret X hP hS hd) ls _ [] hl hP va_S.rf)
end
section
variable {p : Program} {l : Launch} {e : Env} {R : Room} {s : State} {m : MethodId} {args : Array Value} {below : List Frame} {meth : Method} {c : Code} {Q : State → Prop} {H0 : Heap} {cells slots : Nat} {cy : Nat → ClassId} {D : va_G} {ρ : Nat → Nat} {A : Nat → Prop}
def y_Model_divisor : MethodName := ⟨"TermDeskModel", "divisor", "()V"⟩
theorem gi_Model_divisor : gMi y_Model_divisor prog_13_method_64_code 1 none 0 8 := ⟨(gWs_at 1391 (by decide +kernel) (by decide +kernel)), (gWs_at 1390 (by decide +kernel) (by decide +kernel)), (gWs_at 111 (by decide +kernel) (by decide +kernel)), (gWs_at 125 (by decide +kernel) (by decide +kernel)), ⟨by decide +kernel, by decide +kernel, by decide +kernel⟩, _, _, rfl⟩
theorem gm_Model_303 : gMk "TermDeskModel" 303 y_Model_divisor := Or.inl (gWs_at 1388 (by decide +kernel) (by decide +kernel))
theorem d_Model_divisor_0 : decode prog_13_method_64_code 0 = .ok (.aload_n 0, 1) := by decide +kernel
theorem d_Model_divisor_1 : decode prog_13_method_64_code 1 = .ok (.iconst 3, 1) := by decide +kernel
theorem d_Model_divisor_2 : decode prog_13_method_64_code 2 = .ok (.iconst 5, 1) := by decide +kernel
theorem d_Model_divisor_3 : decode prog_13_method_64_code 3 = .ok (.invokevirtual 112, 3) := by decide +kernel
theorem d_Model_divisor_6 : decode prog_13_method_64_code 6 = .ok (.aload_n 0, 1) := by decide +kernel
theorem d_Model_divisor_7 : decode prog_13_method_64_code 7 = .ok (.iconst 0, 1) := by decide +kernel
theorem d_Model_divisor_8 : decode prog_13_method_64_code 8 = .ok (.bipush 6, 2) := by decide +kernel
theorem d_Model_divisor_10 : decode prog_13_method_64_code 10 = .ok (.invokevirtual 112, 3) := by decide +kernel
theorem d_Model_divisor_13 : decode prog_13_method_64_code 13 = .ok (.aload_n 0, 1) := by decide +kernel
theorem d_Model_divisor_14 : decode prog_13_method_64_code 14 = .ok (.getfield 56, 3) := by decide +kernel
theorem d_Model_divisor_17 : decode prog_13_method_64_code 17 = .ok (.iconst 0, 1) := by decide +kernel
theorem d_Model_divisor_18 : decode prog_13_method_64_code 18 = .ok (.iaload, 1) := by decide +kernel
theorem d_Model_divisor_19 : decode prog_13_method_64_code 19 = .ok (.ifCond .le 31, 3) := by decide +kernel
theorem d_Model_divisor_22 : decode prog_13_method_64_code 22 = .ok (.aload_n 0, 1) := by decide +kernel
theorem d_Model_divisor_23 : decode prog_13_method_64_code 23 = .ok (.iconst 1, 1) := by decide +kernel
theorem d_Model_divisor_24 : decode prog_13_method_64_code 24 = .ok (.iconst 3, 1) := by decide +kernel
theorem d_Model_divisor_25 : decode prog_13_method_64_code 25 = .ok (.iconst 0, 1) := by decide +kernel
theorem d_Model_divisor_26 : decode prog_13_method_64_code 26 = .ok (.invokevirtual 306, 3) := by decide +kernel
theorem d_Model_divisor_29 : decode prog_13_method_64_code 29 = .ok (.aload_n 0, 1) := by decide +kernel
theorem d_Model_divisor_30 : decode prog_13_method_64_code 30 = .ok (.iconst 2, 1) := by decide +kernel
theorem d_Model_divisor_31 : decode prog_13_method_64_code 31 = .ok (.iconst 3, 1) := by decide +kernel
theorem d_Model_divisor_32 : decode prog_13_method_64_code 32 = .ok (.invokevirtual 112, 3) := by decide +kernel
theorem d_Model_divisor_35 : decode prog_13_method_64_code 35 = .ok (.aload_n 0, 1) := by decide +kernel
theorem d_Model_divisor_36 : decode prog_13_method_64_code 36 = .ok (.iconst 3, 1) := by decide +kernel
theorem d_Model_divisor_37 : decode prog_13_method_64_code 37 = .ok (.iconst 0, 1) := by decide +kernel
theorem d_Model_divisor_38 : decode prog_13_method_64_code 38 = .ok (.invokevirtual 112, 3) := by decide +kernel
theorem d_Model_divisor_41 : decode prog_13_method_64_code 41 = .ok (.aload_n 0, 1) := by decide +kernel
theorem d_Model_divisor_42 : decode prog_13_method_64_code 42 = .ok (.iconst 0, 1) := by decide +kernel
theorem d_Model_divisor_43 : decode prog_13_method_64_code 43 = .ok (.iconst 2, 1) := by decide +kernel
theorem d_Model_divisor_44 : decode prog_13_method_64_code 44 = .ok (.invokevirtual 112, 3) := by decide +kernel
theorem d_Model_divisor_47 : decode prog_13_method_64_code 47 = .ok (.goto (-34), 3) := by decide +kernel
theorem d_Model_divisor_50 : decode prog_13_method_64_code 50 = .ok (.return_, 1) := by decide +kernel
noncomputable def M_Model_divisor_b13 (u : gSt) : Option ((gSt) ⊕ ((gSt))) :=
  gc (gIn (0 : Int32) (gLen 56)) <| if (u.2.2.1 56 (gIx (0 : Int32))) ≤ (0 : Int32) then
    (some (.inr u))
  else
    ((M_Model_quotient (1 : Int32) (3 : Int32) (0 : Int32) u).bind fun q26 =>
    (M_Model_copyNumber (2 : Int32) (3 : Int32) q26).bind fun q32 =>
    (M_Model_copyNumber (3 : Int32) (0 : Int32) q32).bind fun q38 =>
    (M_Model_copyNumber (0 : Int32) (2 : Int32) q38).bind fun q44 =>
    some (.inl q44))
set_option maxHeartbeats 4000000 in
set_option maxRecDepth 100000 in
theorem t_Model_divisor_b13 (C : gX "TermDeskModel" prog_13_method_64_code 1 none 3 75 R cells slots cy D ρ A p s m args meth c) {u : gSt} {z : (gSt) ⊕ ((gSt))} (hM : M_Model_divisor_b13 u = some z) (hN : ∀ u', z = .inl u' → gAt p l e R s m args below meth c Q H0 cells slots cy D ρ A 1 13 [(0, .ref (ρ 42))] [] (u')) (hE0 : ∀ u', z = .inr u' → gAt p l e R s m args below meth c Q H0 cells slots cy D ρ A 1 50 [] [] (u')) : gAt p l e R s m args below meth c Q H0 cells slots cy D ρ A 1 13 [(0, .ref (ρ 42))] [] u := by
  intro ls H locs hl hP hS
  have hx := C.1
  have hb := C.2.1
  unfold M_Model_divisor_b13 at hM
  refine lv_aload_n hx hb d_Model_divisor_13 rfl (lv_at hl 0 rfl) ?_
  refine g_getR (b := 56) C hP gl_DeskModel_56 rfl rfl rfl d_Model_divisor_14 ?_
  refine lv_iconst (v := (0 : Int32)) hx hb d_Model_divisor_17 (by decide) ?_
  obtain ⟨hi18, hM⟩ := gc_some hM
  refine g_iald C hP rfl hi18 d_Model_divisor_18 ?_
  refine lv_if_le (tgt := 50) hx hb d_Model_divisor_19 (by decide) (fun hc19 => ?_) (fun hc19 => ?_)
  · replace hM := gi_t hc19 hM
    exact hE0 _ (Option.some.inj hM).symm ls H locs (lv_sub hl [] rfl) hP hS
  · replace hM := gi_f hc19 hM
    refine lv_aload_n hx hb d_Model_divisor_22 rfl (lv_at hl 0 rfl) ?_
    refine lv_iconst (v := (1 : Int32)) hx hb d_Model_divisor_23 (by decide) ?_
    refine lv_iconst (v := (3 : Int32)) hx hb d_Model_divisor_24 (by decide) ?_
    refine lv_iconst (v := (0 : Int32)) hx hb d_Model_divisor_25 (by decide) ?_
    obtain ⟨q26, hq26, hM⟩ := gb_some hM
    refine g_backV (g_runV (As := [.int (1 : Int32), .int (3 : Int32), .int (0 : Int32)]) C hP (c_Model_quotient C.2.2.2.2.2.2.2.2.1 hq26) gi_Model_quotient gm_Model_306 rfl rfl (by decide) (by decide) hl.1 rfl (Nat.le_of_ble_eq_true rfl) d_Model_divisor_26) hS (fun H locs hP hS => ?_)
    refine lv_aload_n hx hb d_Model_divisor_29 rfl (lv_at hl 0 rfl) ?_
    refine lv_iconst (v := (2 : Int32)) hx hb d_Model_divisor_30 (by decide) ?_
    refine lv_iconst (v := (3 : Int32)) hx hb d_Model_divisor_31 (by decide) ?_
    obtain ⟨q32, hq32, hM⟩ := gb_some hM
    refine g_backV (g_runV (As := [.int (2 : Int32), .int (3 : Int32)]) C hP (c_Model_copyNumber C.2.2.2.2.2.2.2.2.1 hq32) gi_Model_copyNumber gm_Model_112 rfl rfl (by decide) (by decide) hl.1 rfl (Nat.le_of_ble_eq_true rfl) d_Model_divisor_32) hS (fun H locs hP hS => ?_)
    refine lv_aload_n hx hb d_Model_divisor_35 rfl (lv_at hl 0 rfl) ?_
    refine lv_iconst (v := (3 : Int32)) hx hb d_Model_divisor_36 (by decide) ?_
    refine lv_iconst (v := (0 : Int32)) hx hb d_Model_divisor_37 (by decide) ?_
    obtain ⟨q38, hq38, hM⟩ := gb_some hM
    refine g_backV (g_runV (As := [.int (3 : Int32), .int (0 : Int32)]) C hP (c_Model_copyNumber C.2.2.2.2.2.2.2.2.1 hq38) gi_Model_copyNumber gm_Model_112 rfl rfl (by decide) (by decide) hl.1 rfl (Nat.le_of_ble_eq_true rfl) d_Model_divisor_38) hS (fun H locs hP hS => ?_)
    refine lv_aload_n hx hb d_Model_divisor_41 rfl (lv_at hl 0 rfl) ?_
    refine lv_iconst (v := (0 : Int32)) hx hb d_Model_divisor_42 (by decide) ?_
    refine lv_iconst (v := (2 : Int32)) hx hb d_Model_divisor_43 (by decide) ?_
    obtain ⟨q44, hq44, hM⟩ := gb_some hM
    refine g_backV (g_runV (As := [.int (0 : Int32), .int (2 : Int32)]) C hP (c_Model_copyNumber C.2.2.2.2.2.2.2.2.1 hq44) gi_Model_copyNumber gm_Model_112 rfl rfl (by decide) (by decide) hl.1 rfl (Nat.le_of_ble_eq_true rfl) d_Model_divisor_44) hS (fun H locs hP hS => ?_)
    refine lv_goto (tgt := 13) hx hb d_Model_divisor_47 (by decide) ?_
    exact hN _ (Option.some.inj hM).symm ls H locs (lv_sub hl [0] rfl) hP hS
noncomputable def M_Model_divisor_L13 : (gSt) → Option ((gSt) ⊕ ((gSt))) := fun x => M_Model_divisor_b13 x
theorem t_Model_divisor_L13 (C : gX "TermDeskModel" prog_13_method_64_code 1 none 3 75 R cells slots cy D ρ A p s m args meth c) {u : gSt} {yy : (gSt)} (hL : gLp M_Model_divisor_L13 u = some yy) (hE0 : (∀ y', yy = y' → gAt p l e R s m args below meth c Q H0 cells slots cy D ρ A 1 50 [] [] (y'))) : gAt p l e R s m args below meth c Q H0 cells slots cy D ρ A 1 13 [(0, .ref (ρ 42))] [] u :=
  g_loop (f := M_Model_divisor_L13) (P := fun x => gAt p l e R s m args below meth c Q H0 cells slots cy D ρ A 1 13 [(0, .ref (ρ 42))] [] x) (E := fun yy => (∀ y', yy = y' → gAt p l e R s m args below meth c Q H0 cells slots cy D ρ A 1 50 [] [] (y'))) (fun x z hf hN hE => t_Model_divisor_b13 C hf (fun u' h => hN u' h) (fun u' h => (hE _ h) u' rfl)) hL hE0
noncomputable def M_Model_divisor (u : gSt) : Option (gSt) :=
  (M_Model_copyNumber (3 : Int32) (5 : Int32) u).bind fun q3 =>
  (M_Model_copyNumber (0 : Int32) (6 : Int32) q3).bind fun q10 =>
  (gLp M_Model_divisor_L13 q10).bind fun y13 =>
  some y13
set_option maxHeartbeats 4000000 in
set_option maxRecDepth 100000 in
theorem t_Model_divisor (C : gX "TermDeskModel" prog_13_method_64_code 1 none 3 75 R cells slots cy D ρ A p s m args meth c) {u : gSt} {z : gSt} (hM : M_Model_divisor u = some z) (hR : gRtV p l e R s m args below meth c Q H0 cells slots cy D ρ A prog_13_method_64_code z) : gAt p l e R s m args below meth c Q H0 cells slots cy D ρ A 1 0 [(0, .ref (ρ 42))] [] u := by
  intro ls H locs hl hP hS
  have hx := C.1
  have hb := C.2.1
  unfold M_Model_divisor at hM
  refine lv_aload_n hx hb d_Model_divisor_0 rfl (lv_at hl 0 rfl) ?_
  refine lv_iconst (v := (3 : Int32)) hx hb d_Model_divisor_1 (by decide) ?_
  refine lv_iconst (v := (5 : Int32)) hx hb d_Model_divisor_2 (by decide) ?_
  obtain ⟨q3, hq3, hM⟩ := gb_some hM
  refine g_backV (g_runV (As := [.int (3 : Int32), .int (5 : Int32)]) C hP (c_Model_copyNumber C.2.2.2.2.2.2.2.2.1 hq3) gi_Model_copyNumber gm_Model_112 rfl rfl (by decide) (by decide) hl.1 rfl (Nat.le_of_ble_eq_true rfl) d_Model_divisor_3) hS (fun H locs hP hS => ?_)
  refine lv_aload_n hx hb d_Model_divisor_6 rfl (lv_at hl 0 rfl) ?_
  refine lv_iconst (v := (0 : Int32)) hx hb d_Model_divisor_7 (by decide) ?_
  refine lv_bipush (v := (6 : Int32)) hx hb d_Model_divisor_8 (by decide) ?_
  obtain ⟨q10, hq10, hM⟩ := gb_some hM
  refine g_backV (g_runV (As := [.int (0 : Int32), .int (6 : Int32)]) C hP (c_Model_copyNumber C.2.2.2.2.2.2.2.2.1 hq10) gi_Model_copyNumber gm_Model_112 rfl rfl (by decide) (by decide) hl.1 rfl (Nat.le_of_ble_eq_true rfl) d_Model_divisor_10) hS (fun H locs hP hS => ?_)
  obtain ⟨y13, hL13, hM⟩ := gb_some hM
  refine t_Model_divisor_L13 C hL13 (fun y13_0 hy => ?_) ls H locs (lv_sub hl [0] rfl) hP hS
  · subst hy
    intro ls H locs hl hP hS
    obtain rfl := Option.some.inj hM
    exact hR _ ls H locs d_Model_divisor_50 hP hS
theorem c_Model_divisor {l : Launch} {cy : Nat → ClassId} {D : va_G} {ρ : Nat → Nat} {A : Nat → Prop} (hD : gD ρ A) {u : gSt} {z : gSt} (hM : M_Model_divisor u = some z) : gCtV l y_Model_divisor prog_13_method_64_code 1 none 3 75 cy D ρ A [.ref (ρ 42)] u z :=
  g_met (by decide) hD (Nat.le_of_ble_eq_true rfl) (fun p e s m below meth c ls X hl hP => t_Model_divisor X hM (fun pc ls H locs hd hP hS => g_vret X hP hS hd) ls _ [] hl hP va_S.rf)
end
section
variable {p : Program} {l : Launch} {e : Env} {R : Room} {s : State} {m : MethodId} {args : Array Value} {below : List Frame} {meth : Method} {c : Code} {Q : State → Prop} {H0 : Heap} {cells slots : Nat} {cy : Nat → ClassId} {D : va_G} {ρ : Nat → Nat} {A : Nat → Prop}
def y_Model_print : MethodName := ⟨"TermDeskModel", "print", "(III)I"⟩
theorem gi_Model_print : gMi y_Model_print prog_13_method_63_code 6 (some .int) 3 8 := ⟨(gWs_at 1387 (by decide +kernel) (by decide +kernel)), (gWs_at 1385 (by decide +kernel) (by decide +kernel)), (gWs_at 1386 (by decide +kernel) (by decide +kernel)), (gWs_at 125 (by decide +kernel) (by decide +kernel)), ⟨by decide +kernel, by decide +kernel, by decide +kernel⟩, _, _, rfl⟩
theorem gm_Law_105 : gMk "TermDeskLaw" 105 y_Model_print := Or.inl (gWs_at 1384 (by decide +kernel) (by decide +kernel))
theorem d_Model_print_0 : decode prog_13_method_63_code 0 = .ok (.aload_n 0, 1) := by decide +kernel
theorem d_Model_print_1 : decode prog_13_method_63_code 1 = .ok (.iload_n 1, 1) := by decide +kernel
theorem d_Model_print_2 : decode prog_13_method_63_code 2 = .ok (.ifCond .lt 11, 3) := by decide +kernel
theorem d_Model_print_5 : decode prog_13_method_63_code 5 = .ok (.iload_n 1, 1) := by decide +kernel
theorem d_Model_print_6 : decode prog_13_method_63_code 6 = .ok (.aload_n 0, 1) := by decide +kernel
theorem d_Model_print_7 : decode prog_13_method_63_code 7 = .ok (.getfield 246, 3) := by decide +kernel
theorem d_Model_print_10 : decode prog_13_method_63_code 10 = .ok (.if_icmp .lt 7, 3) := by decide +kernel
theorem d_Model_print_13 : decode prog_13_method_63_code 13 = .ok (.iconst 1, 1) := by decide +kernel
theorem d_Model_print_14 : decode prog_13_method_63_code 14 = .ok (.goto 4, 3) := by decide +kernel
theorem d_Model_print_17 : decode prog_13_method_63_code 17 = .ok (.iconst 0, 1) := by decide +kernel
theorem d_Model_print_18 : decode prog_13_method_63_code 18 = .ok (.iconst 1, 1) := by decide +kernel
theorem d_Model_print_19 : decode prog_13_method_63_code 19 = .ok (.invokevirtual 133, 3) := by decide +kernel
theorem d_Model_print_22 : decode prog_13_method_63_code 22 = .ok (.ifCond .ne 36, 3) := by decide +kernel
theorem d_Model_print_25 : decode prog_13_method_63_code 25 = .ok (.aload_n 0, 1) := by decide +kernel
theorem d_Model_print_26 : decode prog_13_method_63_code 26 = .ok (.iload_n 2, 1) := by decide +kernel
theorem d_Model_print_27 : decode prog_13_method_63_code 27 = .ok (.ifCond .lt 19, 3) := by decide +kernel
theorem d_Model_print_30 : decode prog_13_method_63_code 30 = .ok (.iload_n 2, 1) := by decide +kernel
theorem d_Model_print_31 : decode prog_13_method_63_code 31 = .ok (.iconst 3, 1) := by decide +kernel
theorem d_Model_print_32 : decode prog_13_method_63_code 32 = .ok (.if_icmp .gt 14, 3) := by decide +kernel
theorem d_Model_print_35 : decode prog_13_method_63_code 35 = .ok (.iload_n 3, 1) := by decide +kernel
theorem d_Model_print_36 : decode prog_13_method_63_code 36 = .ok (.iconst (-1), 1) := by decide +kernel
theorem d_Model_print_37 : decode prog_13_method_63_code 37 = .ok (.if_icmp .lt 9, 3) := by decide +kernel
theorem d_Model_print_40 : decode prog_13_method_63_code 40 = .ok (.iload_n 3, 1) := by decide +kernel
theorem d_Model_print_41 : decode prog_13_method_63_code 41 = .ok (.bipush 40, 2) := by decide +kernel
theorem d_Model_print_43 : decode prog_13_method_63_code 43 = .ok (.if_icmp .le 7, 3) := by decide +kernel
theorem d_Model_print_46 : decode prog_13_method_63_code 46 = .ok (.iconst 1, 1) := by decide +kernel
theorem d_Model_print_47 : decode prog_13_method_63_code 47 = .ok (.goto 4, 3) := by decide +kernel
theorem d_Model_print_50 : decode prog_13_method_63_code 50 = .ok (.iconst 0, 1) := by decide +kernel
theorem d_Model_print_51 : decode prog_13_method_63_code 51 = .ok (.iconst 2, 1) := by decide +kernel
theorem d_Model_print_52 : decode prog_13_method_63_code 52 = .ok (.invokevirtual 133, 3) := by decide +kernel
theorem d_Model_print_55 : decode prog_13_method_63_code 55 = .ok (.ifCond .eq 5, 3) := by decide +kernel
theorem d_Model_print_58 : decode prog_13_method_63_code 58 = .ok (.iconst 0, 1) := by decide +kernel
theorem d_Model_print_59 : decode prog_13_method_63_code 59 = .ok (.ireturn, 1) := by decide +kernel
theorem d_Model_print_60 : decode prog_13_method_63_code 60 = .ok (.iconst 4, 1) := by decide +kernel
theorem d_Model_print_61 : decode prog_13_method_63_code 61 = .ok (.aload_n 0, 1) := by decide +kernel
theorem d_Model_print_62 : decode prog_13_method_63_code 62 = .ok (.getfield 71, 3) := by decide +kernel
theorem d_Model_print_65 : decode prog_13_method_63_code 65 = .ok (.iload_n 1, 1) := by decide +kernel
theorem d_Model_print_66 : decode prog_13_method_63_code 66 = .ok (.iaload, 1) := by decide +kernel
theorem d_Model_print_67 : decode prog_13_method_63_code 67 = .ok (.imul, 1) := by decide +kernel
theorem d_Model_print_68 : decode prog_13_method_63_code 68 = .ok (.iload_n 2, 1) := by decide +kernel
theorem d_Model_print_69 : decode prog_13_method_63_code 69 = .ok (.iadd, 1) := by decide +kernel
theorem d_Model_print_70 : decode prog_13_method_63_code 70 = .ok (.istore 4, 2) := by decide +kernel
theorem d_Model_print_72 : decode prog_13_method_63_code 72 = .ok (.aload_n 0, 1) := by decide +kernel
theorem d_Model_print_73 : decode prog_13_method_63_code 73 = .ok (.iconst 5, 1) := by decide +kernel
theorem d_Model_print_74 : decode prog_13_method_63_code 74 = .ok (.aload_n 0, 1) := by decide +kernel
theorem d_Model_print_75 : decode prog_13_method_63_code 75 = .ok (.getfield 65, 3) := by decide +kernel
theorem d_Model_print_78 : decode prog_13_method_63_code 78 = .ok (.bipush 20, 2) := by decide +kernel
theorem d_Model_print_80 : decode prog_13_method_63_code 80 = .ok (.iload 4, 2) := by decide +kernel
theorem d_Model_print_82 : decode prog_13_method_63_code 82 = .ok (.imul, 1) := by decide +kernel
theorem d_Model_print_83 : decode prog_13_method_63_code 83 = .ok (.invokevirtual 268, 3) := by decide +kernel
theorem d_Model_print_86 : decode prog_13_method_63_code 86 = .ok (.aload_n 0, 1) := by decide +kernel
theorem d_Model_print_87 : decode prog_13_method_63_code 87 = .ok (.bipush 6, 2) := by decide +kernel
theorem d_Model_print_89 : decode prog_13_method_63_code 89 = .ok (.aload_n 0, 1) := by decide +kernel
theorem d_Model_print_90 : decode prog_13_method_63_code 90 = .ok (.getfield 77, 3) := by decide +kernel
theorem d_Model_print_93 : decode prog_13_method_63_code 93 = .ok (.iconst 0, 1) := by decide +kernel
theorem d_Model_print_94 : decode prog_13_method_63_code 94 = .ok (.invokevirtual 268, 3) := by decide +kernel
theorem d_Model_print_97 : decode prog_13_method_63_code 97 = .ok (.aload_n 0, 1) := by decide +kernel
theorem d_Model_print_98 : decode prog_13_method_63_code 98 = .ok (.bipush 6, 2) := by decide +kernel
theorem d_Model_print_100 : decode prog_13_method_63_code 100 = .ok (.aload_n 0, 1) := by decide +kernel
theorem d_Model_print_101 : decode prog_13_method_63_code 101 = .ok (.getfield 68, 3) := by decide +kernel
theorem d_Model_print_104 : decode prog_13_method_63_code 104 = .ok (.iload 4, 2) := by decide +kernel
theorem d_Model_print_106 : decode prog_13_method_63_code 106 = .ok (.iaload, 1) := by decide +kernel
theorem d_Model_print_107 : decode prog_13_method_63_code 107 = .ok (.i2l, 1) := by decide +kernel
theorem d_Model_print_108 : decode prog_13_method_63_code 108 = .ok (.lconst 0, 1) := by decide +kernel
theorem d_Model_print_109 : decode prog_13_method_63_code 109 = .ok (.invokevirtual 104, 3) := by decide +kernel
theorem d_Model_print_112 : decode prog_13_method_63_code 112 = .ok (.aload_n 0, 1) := by decide +kernel
theorem d_Model_print_113 : decode prog_13_method_63_code 113 = .ok (.iconst 0, 1) := by decide +kernel
theorem d_Model_print_114 : decode prog_13_method_63_code 114 = .ok (.putfield 297, 3) := by decide +kernel
theorem d_Model_print_117 : decode prog_13_method_63_code 117 = .ok (.iload_n 3, 1) := by decide +kernel
theorem d_Model_print_118 : decode prog_13_method_63_code 118 = .ok (.iconst (-1), 1) := by decide +kernel
theorem d_Model_print_119 : decode prog_13_method_63_code 119 = .ok (.if_icmp .ne 77, 3) := by decide +kernel
theorem d_Model_print_122 : decode prog_13_method_63_code 122 = .ok (.aload_n 0, 1) := by decide +kernel
theorem d_Model_print_123 : decode prog_13_method_63_code 123 = .ok (.invokevirtual 303, 3) := by decide +kernel
theorem d_Model_print_126 : decode prog_13_method_63_code 126 = .ok (.aload_n 0, 1) := by decide +kernel
theorem d_Model_print_127 : decode prog_13_method_63_code 127 = .ok (.iconst 2, 1) := by decide +kernel
theorem d_Model_print_128 : decode prog_13_method_63_code 128 = .ok (.iconst 5, 1) := by decide +kernel
theorem d_Model_print_129 : decode prog_13_method_63_code 129 = .ok (.invokevirtual 112, 3) := by decide +kernel
theorem d_Model_print_132 : decode prog_13_method_63_code 132 = .ok (.aload_n 0, 1) := by decide +kernel
theorem d_Model_print_133 : decode prog_13_method_63_code 133 = .ok (.iconst 1, 1) := by decide +kernel
theorem d_Model_print_134 : decode prog_13_method_63_code 134 = .ok (.iconst 2, 1) := by decide +kernel
theorem d_Model_print_135 : decode prog_13_method_63_code 135 = .ok (.iconst 3, 1) := by decide +kernel
theorem d_Model_print_136 : decode prog_13_method_63_code 136 = .ok (.invokevirtual 306, 3) := by decide +kernel
theorem d_Model_print_139 : decode prog_13_method_63_code 139 = .ok (.aload_n 0, 1) := by decide +kernel
theorem d_Model_print_140 : decode prog_13_method_63_code 140 = .ok (.iconst 1, 1) := by decide +kernel
theorem d_Model_print_141 : decode prog_13_method_63_code 141 = .ok (.iconst 0, 1) := by decide +kernel
theorem d_Model_print_142 : decode prog_13_method_63_code 142 = .ok (.invokevirtual 309, 3) := by decide +kernel
theorem d_Model_print_145 : decode prog_13_method_63_code 145 = .ok (.aload_n 0, 1) := by decide +kernel
theorem d_Model_print_146 : decode prog_13_method_63_code 146 = .ok (.iconst 2, 1) := by decide +kernel
theorem d_Model_print_147 : decode prog_13_method_63_code 147 = .ok (.bipush 6, 2) := by decide +kernel
theorem d_Model_print_149 : decode prog_13_method_63_code 149 = .ok (.invokevirtual 112, 3) := by decide +kernel
theorem d_Model_print_152 : decode prog_13_method_63_code 152 = .ok (.aload_n 0, 1) := by decide +kernel
theorem d_Model_print_153 : decode prog_13_method_63_code 153 = .ok (.iconst 1, 1) := by decide +kernel
theorem d_Model_print_154 : decode prog_13_method_63_code 154 = .ok (.iconst 2, 1) := by decide +kernel
theorem d_Model_print_155 : decode prog_13_method_63_code 155 = .ok (.iconst 3, 1) := by decide +kernel
theorem d_Model_print_156 : decode prog_13_method_63_code 156 = .ok (.invokevirtual 306, 3) := by decide +kernel
theorem d_Model_print_159 : decode prog_13_method_63_code 159 = .ok (.aload_n 0, 1) := by decide +kernel
theorem d_Model_print_160 : decode prog_13_method_63_code 160 = .ok (.getfield 56, 3) := by decide +kernel
theorem d_Model_print_163 : decode prog_13_method_63_code 163 = .ok (.iconst 1, 1) := by decide +kernel
theorem d_Model_print_164 : decode prog_13_method_63_code 164 = .ok (.iaload, 1) := by decide +kernel
theorem d_Model_print_165 : decode prog_13_method_63_code 165 = .ok (.iconst 1, 1) := by decide +kernel
theorem d_Model_print_166 : decode prog_13_method_63_code 166 = .ok (.if_icmp .ne 13, 3) := by decide +kernel
theorem d_Model_print_169 : decode prog_13_method_63_code 169 = .ok (.aload_n 0, 1) := by decide +kernel
theorem d_Model_print_170 : decode prog_13_method_63_code 170 = .ok (.iconst 1, 1) := by decide +kernel
theorem d_Model_print_171 : decode prog_13_method_63_code 171 = .ok (.iconst 0, 1) := by decide +kernel
theorem d_Model_print_172 : decode prog_13_method_63_code 172 = .ok (.invokevirtual 89, 3) := by decide +kernel
theorem d_Model_print_175 : decode prog_13_method_63_code 175 = .ok (.iconst 1, 1) := by decide +kernel
theorem d_Model_print_176 : decode prog_13_method_63_code 176 = .ok (.if_icmp .eq 15, 3) := by decide +kernel
theorem d_Model_print_179 : decode prog_13_method_63_code 179 = .ok (.aload_n 0, 1) := by decide +kernel
theorem d_Model_print_180 : decode prog_13_method_63_code 180 = .ok (.bipush 47, 2) := by decide +kernel
theorem d_Model_print_182 : decode prog_13_method_63_code 182 = .ok (.invokevirtual 300, 3) := by decide +kernel
theorem d_Model_print_185 : decode prog_13_method_63_code 185 = .ok (.aload_n 0, 1) := by decide +kernel
theorem d_Model_print_186 : decode prog_13_method_63_code 186 = .ok (.iconst 1, 1) := by decide +kernel
theorem d_Model_print_187 : decode prog_13_method_63_code 187 = .ok (.iconst 0, 1) := by decide +kernel
theorem d_Model_print_188 : decode prog_13_method_63_code 188 = .ok (.invokevirtual 309, 3) := by decide +kernel
theorem d_Model_print_191 : decode prog_13_method_63_code 191 = .ok (.aload_n 0, 1) := by decide +kernel
theorem d_Model_print_192 : decode prog_13_method_63_code 192 = .ok (.getfield 297, 3) := by decide +kernel
theorem d_Model_print_195 : decode prog_13_method_63_code 195 = .ok (.ireturn, 1) := by decide +kernel
theorem d_Model_print_196 : decode prog_13_method_63_code 196 = .ok (.iconst 0, 1) := by decide +kernel
theorem d_Model_print_197 : decode prog_13_method_63_code 197 = .ok (.istore 5, 2) := by decide +kernel
theorem d_Model_print_199 : decode prog_13_method_63_code 199 = .ok (.iload 5, 2) := by decide +kernel
theorem d_Model_print_201 : decode prog_13_method_63_code 201 = .ok (.iload_n 3, 1) := by decide +kernel
theorem d_Model_print_202 : decode prog_13_method_63_code 202 = .ok (.if_icmp .ge 18, 3) := by decide +kernel
theorem d_Model_print_205 : decode prog_13_method_63_code 205 = .ok (.aload_n 0, 1) := by decide +kernel
theorem d_Model_print_206 : decode prog_13_method_63_code 206 = .ok (.iconst 5, 1) := by decide +kernel
theorem d_Model_print_207 : decode prog_13_method_63_code 207 = .ok (.ldc2_w 312, 3) := by decide +kernel
theorem d_Model_print_210 : decode prog_13_method_63_code 210 = .ok (.lconst 0, 1) := by decide +kernel
theorem d_Model_print_211 : decode prog_13_method_63_code 211 = .ok (.invokevirtual 104, 3) := by decide +kernel
theorem d_Model_print_214 : decode prog_13_method_63_code 214 = .ok (.iinc 5 1, 3) := by decide +kernel
theorem d_Model_print_217 : decode prog_13_method_63_code 217 = .ok (.goto (-18), 3) := by decide +kernel
theorem d_Model_print_220 : decode prog_13_method_63_code 220 = .ok (.aload_n 0, 1) := by decide +kernel
theorem d_Model_print_221 : decode prog_13_method_63_code 221 = .ok (.iconst 1, 1) := by decide +kernel
theorem d_Model_print_222 : decode prog_13_method_63_code 222 = .ok (.iconst 5, 1) := by decide +kernel
theorem d_Model_print_223 : decode prog_13_method_63_code 223 = .ok (.bipush 6, 2) := by decide +kernel
theorem d_Model_print_225 : decode prog_13_method_63_code 225 = .ok (.invokevirtual 306, 3) := by decide +kernel
theorem d_Model_print_228 : decode prog_13_method_63_code 228 = .ok (.aload_n 0, 1) := by decide +kernel
theorem d_Model_print_229 : decode prog_13_method_63_code 229 = .ok (.iconst 5, 1) := by decide +kernel
theorem d_Model_print_230 : decode prog_13_method_63_code 230 = .ok (.ldc2_w 119, 3) := by decide +kernel
theorem d_Model_print_233 : decode prog_13_method_63_code 233 = .ok (.lconst 0, 1) := by decide +kernel
theorem d_Model_print_234 : decode prog_13_method_63_code 234 = .ok (.invokevirtual 104, 3) := by decide +kernel
theorem d_Model_print_237 : decode prog_13_method_63_code 237 = .ok (.aload_n 0, 1) := by decide +kernel
theorem d_Model_print_238 : decode prog_13_method_63_code 238 = .ok (.iconst 5, 1) := by decide +kernel
theorem d_Model_print_239 : decode prog_13_method_63_code 239 = .ok (.bipush 6, 2) := by decide +kernel
theorem d_Model_print_241 : decode prog_13_method_63_code 241 = .ok (.invokevirtual 121, 3) := by decide +kernel
theorem d_Model_print_244 : decode prog_13_method_63_code 244 = .ok (.istore 5, 2) := by decide +kernel
theorem d_Model_print_246 : decode prog_13_method_63_code 246 = .ok (.iload 5, 2) := by decide +kernel
theorem d_Model_print_248 : decode prog_13_method_63_code 248 = .ok (.ifCond .gt 20, 3) := by decide +kernel
theorem d_Model_print_251 : decode prog_13_method_63_code 251 = .ok (.iload 5, 2) := by decide +kernel
theorem d_Model_print_253 : decode prog_13_method_63_code 253 = .ok (.ifCond .ne 22, 3) := by decide +kernel
theorem d_Model_print_256 : decode prog_13_method_63_code 256 = .ok (.aload_n 0, 1) := by decide +kernel
theorem d_Model_print_257 : decode prog_13_method_63_code 257 = .ok (.iconst 1, 1) := by decide +kernel
theorem d_Model_print_258 : decode prog_13_method_63_code 258 = .ok (.iconst 0, 1) := by decide +kernel
theorem d_Model_print_259 : decode prog_13_method_63_code 259 = .ok (.invokevirtual 89, 3) := by decide +kernel
theorem d_Model_print_262 : decode prog_13_method_63_code 262 = .ok (.iconst 1, 1) := by decide +kernel
theorem d_Model_print_263 : decode prog_13_method_63_code 263 = .ok (.iand, 1) := by decide +kernel
theorem d_Model_print_264 : decode prog_13_method_63_code 264 = .ok (.iconst 1, 1) := by decide +kernel
theorem d_Model_print_265 : decode prog_13_method_63_code 265 = .ok (.if_icmp .ne 10, 3) := by decide +kernel
theorem d_Model_print_268 : decode prog_13_method_63_code 268 = .ok (.aload_n 0, 1) := by decide +kernel
theorem d_Model_print_269 : decode prog_13_method_63_code 269 = .ok (.iconst 1, 1) := by decide +kernel
theorem d_Model_print_270 : decode prog_13_method_63_code 270 = .ok (.lconst 1, 1) := by decide +kernel
theorem d_Model_print_271 : decode prog_13_method_63_code 271 = .ok (.lconst 1, 1) := by decide +kernel
theorem d_Model_print_272 : decode prog_13_method_63_code 272 = .ok (.invokevirtual 104, 3) := by decide +kernel
theorem d_Model_print_275 : decode prog_13_method_63_code 275 = .ok (.aload_n 0, 1) := by decide +kernel
theorem d_Model_print_276 : decode prog_13_method_63_code 276 = .ok (.iload_n 3, 1) := by decide +kernel
theorem d_Model_print_277 : decode prog_13_method_63_code 277 = .ok (.iconst 1, 1) := by decide +kernel
theorem d_Model_print_278 : decode prog_13_method_63_code 278 = .ok (.iadd, 1) := by decide +kernel
theorem d_Model_print_279 : decode prog_13_method_63_code 279 = .ok (.iload_n 3, 1) := by decide +kernel
theorem d_Model_print_280 : decode prog_13_method_63_code 280 = .ok (.invokevirtual 309, 3) := by decide +kernel
theorem d_Model_print_283 : decode prog_13_method_63_code 283 = .ok (.aload_n 0, 1) := by decide +kernel
theorem d_Model_print_284 : decode prog_13_method_63_code 284 = .ok (.getfield 297, 3) := by decide +kernel
theorem d_Model_print_287 : decode prog_13_method_63_code 287 = .ok (.ireturn, 1) := by decide +kernel
noncomputable def M_Model_print_b58 (u : gSt) : Option ((Int32 × gSt)) :=
  some ((0 : Int32), u)
set_option maxHeartbeats 4000000 in
set_option maxRecDepth 100000 in
theorem t_Model_print_b58 (C : gX "TermDeskModel" prog_13_method_63_code 6 (some .int) 4 95 R cells slots cy D ρ A p s m args meth c) {u : gSt} {z : (Int32 × gSt)} (hM : M_Model_print_b58 u = some z) (hR : gRtI p l e R s m args below meth c Q H0 cells slots cy D ρ A prog_13_method_63_code z.1 z.2) : gAt p l e R s m args below meth c Q H0 cells slots cy D ρ A 6 58 [] [] u := by
  intro ls H locs hl hP hS
  have hx := C.1
  have hb := C.2.1
  unfold M_Model_print_b58 at hM
  refine lv_iconst (v := (0 : Int32)) hx hb d_Model_print_58 (by decide) ?_
  obtain rfl := Option.some.inj hM
  exact hR _ ls H locs d_Model_print_59 hP hS
noncomputable def M_Model_print_b199 (x3 : Int32) (x5 : Int32) (u : gSt) : Option ((Int32 × Int32 × gSt) ⊕ ((Int32 × gSt))) :=
  if x3 ≤ x5 then
    (some (.inr (x3, u)))
  else
    ((M_Model_grow (5 : Int32) (10 : Int64) (0 : Int64) u).bind fun q211 =>
    some (.inl (x3, x5 + (1 : Int32), q211)))
set_option maxHeartbeats 4000000 in
set_option maxRecDepth 100000 in
theorem t_Model_print_b199 (C : gX "TermDeskModel" prog_13_method_63_code 6 (some .int) 4 95 R cells slots cy D ρ A p s m args meth c) {x3 : Int32} {x5 : Int32} {u : gSt} {z : (Int32 × Int32 × gSt) ⊕ ((Int32 × gSt))} (hM : M_Model_print_b199 x3 x5 u = some z) (hN : ∀ x3' x5' u', z = .inl (x3', x5', u') → gAt p l e R s m args below meth c Q H0 cells slots cy D ρ A 6 199 [(0, .ref (ρ 42)), (3, .int (x3')), (5, .int (x5'))] [] (u')) (hE0 : ∀ x3' u', z = .inr (x3', u') → gAt p l e R s m args below meth c Q H0 cells slots cy D ρ A 6 220 [(0, .ref (ρ 42)), (3, .int (x3'))] [] (u')) : gAt p l e R s m args below meth c Q H0 cells slots cy D ρ A 6 199 [(0, .ref (ρ 42)), (3, .int x3), (5, .int x5)] [] u := by
  intro ls H locs hl hP hS
  have hx := C.1
  have hb := C.2.1
  unfold M_Model_print_b199 at hM
  refine lv_iload hx hb d_Model_print_199 (lv_at hl 2 rfl) ?_
  refine lv_iload_n hx hb d_Model_print_201 rfl (lv_at hl 1 rfl) ?_
  refine lv_icmp_ge (tgt := 220) hx hb d_Model_print_202 (by decide) (fun hc202 => ?_) (fun hc202 => ?_)
  · replace hM := gi_t hc202 hM
    exact hE0 _ _ (Option.some.inj hM).symm ls H locs (lv_sub hl [0, 1] rfl) hP hS
  · replace hM := gi_f hc202 hM
    refine lv_aload_n hx hb d_Model_print_205 rfl (lv_at hl 0 rfl) ?_
    refine lv_iconst (v := (5 : Int32)) hx hb d_Model_print_206 (by decide) ?_
    refine lv_ldc2 (v := 10) hx hb C.2.2.2.2.1 (C.2.2.2.2.2.1 _ (gWs_at 1409 (by decide +kernel) (by decide +kernel))) d_Model_print_207 ?_
    refine lv_lconst (v := 0) hx hb d_Model_print_210 (by decide) ?_
    obtain ⟨q211, hq211, hM⟩ := gb_some hM
    refine g_backV (g_runV (As := [.int (5 : Int32), .long (10 : Int64), .long (0 : Int64)]) C hP (c_Model_grow C.2.2.2.2.2.2.2.2.1 hq211) gi_Model_grow gm_Model_104 rfl rfl (by decide) (by decide) hl.1 rfl (Nat.le_of_ble_eq_true rfl) d_Model_print_211) hS (fun H locs hP hS => ?_)
    refine lv_iinc (k := 2) (v := x5 + (1 : Int32)) (lv' := [(5, .int (x5 + (1 : Int32))), (0, .ref (ρ 42)), (3, .int x3)]) hx hb d_Model_print_214 hl rfl (congrArg (fun z => x5 + z) (by decide)) (by decide) rfl (fun ls hl => ?_)
    refine lv_goto (tgt := 199) hx hb d_Model_print_217 (by decide) ?_
    exact hN _ _ _ (Option.some.inj hM).symm ls H locs (lv_sub hl [1, 2, 0] rfl) hP hS
noncomputable def M_Model_print_L199 : (Int32 × Int32 × gSt) → Option ((Int32 × Int32 × gSt) ⊕ ((Int32 × gSt))) := fun x => M_Model_print_b199 x.1 x.2.1 x.2.2
theorem t_Model_print_L199 (C : gX "TermDeskModel" prog_13_method_63_code 6 (some .int) 4 95 R cells slots cy D ρ A p s m args meth c) {x3 : Int32} {x5 : Int32} {u : gSt} {yy : (Int32 × gSt)} (hL : gLp M_Model_print_L199 (x3, x5, u) = some yy) (hE0 : (∀ y', yy = y' → gAt p l e R s m args below meth c Q H0 cells slots cy D ρ A 6 220 [(0, .ref (ρ 42)), (3, .int (y'.1))] [] (y'.2))) : gAt p l e R s m args below meth c Q H0 cells slots cy D ρ A 6 199 [(0, .ref (ρ 42)), (3, .int x3), (5, .int x5)] [] u :=
  g_loop (f := M_Model_print_L199) (P := fun x => gAt p l e R s m args below meth c Q H0 cells slots cy D ρ A 6 199 [(0, .ref (ρ 42)), (3, .int x.1), (5, .int x.2.1)] [] x.2.2) (E := fun yy => (∀ y', yy = y' → gAt p l e R s m args below meth c Q H0 cells slots cy D ρ A 6 220 [(0, .ref (ρ 42)), (3, .int (y'.1))] [] (y'.2))) (fun x z hf hN hE => t_Model_print_b199 C hf (fun x3' x5' u' h => hN (x3', x5', u') h) (fun x3' u' h => (hE _ h) (x3', u') rfl)) hL hE0
noncomputable def M_Model_print_b275 (x3 : Int32) (u : gSt) : Option ((Int32 × gSt)) :=
  (M_Model_say (x3 + (1 : Int32)) x3 u).bind fun q280 =>
  some (q280.1 42 39, q280)
set_option maxHeartbeats 4000000 in
set_option maxRecDepth 100000 in
theorem t_Model_print_b275 (C : gX "TermDeskModel" prog_13_method_63_code 6 (some .int) 4 95 R cells slots cy D ρ A p s m args meth c) {x3 : Int32} {u : gSt} {z : (Int32 × gSt)} (hM : M_Model_print_b275 x3 u = some z) (hR : gRtI p l e R s m args below meth c Q H0 cells slots cy D ρ A prog_13_method_63_code z.1 z.2) : gAt p l e R s m args below meth c Q H0 cells slots cy D ρ A 6 275 [(0, .ref (ρ 42)), (3, .int x3)] [] u := by
  intro ls H locs hl hP hS
  have hx := C.1
  have hb := C.2.1
  unfold M_Model_print_b275 at hM
  refine lv_aload_n hx hb d_Model_print_275 rfl (lv_at hl 0 rfl) ?_
  refine lv_iload_n hx hb d_Model_print_276 rfl (lv_at hl 1 rfl) ?_
  refine lv_iconst (v := (1 : Int32)) hx hb d_Model_print_277 (by decide) ?_
  refine lv_iadd hx hb d_Model_print_278 ?_
  refine lv_iload_n hx hb d_Model_print_279 rfl (lv_at hl 1 rfl) ?_
  obtain ⟨q280, hq280, hM⟩ := gb_some hM
  refine g_backV (g_runV (As := [.int (x3 + (1 : Int32)), .int x3]) C hP (c_Model_say C.2.2.2.2.2.2.2.2.1 hq280) gi_Model_say gm_Model_309 rfl rfl (by decide) (by decide) hl.1 rfl (Nat.le_of_ble_eq_true rfl) d_Model_print_280) hS (fun H locs hP hS => ?_)
  refine lv_aload_n hx hb d_Model_print_283 rfl (lv_at hl 0 rfl) ?_
  refine g_getI C hP gl_DeskModel_297 rfl rfl d_Model_print_284 ?_
  obtain rfl := Option.some.inj hM
  exact hR _ ls H locs d_Model_print_287 hP hS
noncomputable def M_Model_print_b268 (x3 : Int32) (u : gSt) : Option ((Int32 × gSt)) :=
  (M_Model_grow (1 : Int32) (1 : Int64) (1 : Int64) u).bind fun q272 =>
  M_Model_print_b275 x3 q272
set_option maxHeartbeats 4000000 in
set_option maxRecDepth 100000 in
theorem t_Model_print_b268 (C : gX "TermDeskModel" prog_13_method_63_code 6 (some .int) 4 95 R cells slots cy D ρ A p s m args meth c) {x3 : Int32} {u : gSt} {z : (Int32 × gSt)} (hM : M_Model_print_b268 x3 u = some z) (hR : gRtI p l e R s m args below meth c Q H0 cells slots cy D ρ A prog_13_method_63_code z.1 z.2) : gAt p l e R s m args below meth c Q H0 cells slots cy D ρ A 6 268 [(0, .ref (ρ 42)), (3, .int x3)] [] u := by
  intro ls H locs hl hP hS
  have hx := C.1
  have hb := C.2.1
  unfold M_Model_print_b268 at hM
  refine lv_aload_n hx hb d_Model_print_268 rfl (lv_at hl 0 rfl) ?_
  refine lv_iconst (v := (1 : Int32)) hx hb d_Model_print_269 (by decide) ?_
  refine lv_lconst (v := 1) hx hb d_Model_print_270 (by decide) ?_
  refine lv_lconst (v := 1) hx hb d_Model_print_271 (by decide) ?_
  obtain ⟨q272, hq272, hM⟩ := gb_some hM
  refine g_backV (g_runV (As := [.int (1 : Int32), .long (1 : Int64), .long (1 : Int64)]) C hP (c_Model_grow C.2.2.2.2.2.2.2.2.1 hq272) gi_Model_grow gm_Model_104 rfl rfl (by decide) (by decide) hl.1 rfl (Nat.le_of_ble_eq_true rfl) d_Model_print_272) hS (fun H locs hP hS => ?_)
  exact t_Model_print_b275 C hM hR ls H locs (lv_sub hl [0, 1] rfl) hP hS
noncomputable def M_Model_print_b191 (u : gSt) : Option ((Int32 × gSt)) :=
  some (u.1 42 39, u)
set_option maxHeartbeats 4000000 in
set_option maxRecDepth 100000 in
theorem t_Model_print_b191 (C : gX "TermDeskModel" prog_13_method_63_code 6 (some .int) 4 95 R cells slots cy D ρ A p s m args meth c) {u : gSt} {z : (Int32 × gSt)} (hM : M_Model_print_b191 u = some z) (hR : gRtI p l e R s m args below meth c Q H0 cells slots cy D ρ A prog_13_method_63_code z.1 z.2) : gAt p l e R s m args below meth c Q H0 cells slots cy D ρ A 6 191 [(0, .ref (ρ 42))] [] u := by
  intro ls H locs hl hP hS
  have hx := C.1
  have hb := C.2.1
  unfold M_Model_print_b191 at hM
  refine lv_aload_n hx hb d_Model_print_191 rfl (lv_at hl 0 rfl) ?_
  refine g_getI C hP gl_DeskModel_297 rfl rfl d_Model_print_192 ?_
  obtain rfl := Option.some.inj hM
  exact hR _ ls H locs d_Model_print_195 hP hS
noncomputable def M_Model_print_b179 (u : gSt) : Option ((Int32 × gSt)) :=
  (M_Model_put (47 : Int32) u).bind fun q182 =>
  (M_Model_say (1 : Int32) (0 : Int32) q182).bind fun q188 =>
  M_Model_print_b191 q188
set_option maxHeartbeats 4000000 in
set_option maxRecDepth 100000 in
theorem t_Model_print_b179 (C : gX "TermDeskModel" prog_13_method_63_code 6 (some .int) 4 95 R cells slots cy D ρ A p s m args meth c) {u : gSt} {z : (Int32 × gSt)} (hM : M_Model_print_b179 u = some z) (hR : gRtI p l e R s m args below meth c Q H0 cells slots cy D ρ A prog_13_method_63_code z.1 z.2) : gAt p l e R s m args below meth c Q H0 cells slots cy D ρ A 6 179 [(0, .ref (ρ 42))] [] u := by
  intro ls H locs hl hP hS
  have hx := C.1
  have hb := C.2.1
  unfold M_Model_print_b179 at hM
  refine lv_aload_n hx hb d_Model_print_179 rfl (lv_at hl 0 rfl) ?_
  refine lv_bipush (v := (47 : Int32)) hx hb d_Model_print_180 (by decide) ?_
  obtain ⟨q182, hq182, hM⟩ := gb_some hM
  refine g_backV (g_runV (As := [.int (47 : Int32)]) C hP (c_Model_put C.2.2.2.2.2.2.2.2.1 hq182) gi_Model_put gm_Model_300 rfl rfl (by decide) (by decide) hl.1 rfl (Nat.le_of_ble_eq_true rfl) d_Model_print_182) hS (fun H locs hP hS => ?_)
  refine lv_aload_n hx hb d_Model_print_185 rfl (lv_at hl 0 rfl) ?_
  refine lv_iconst (v := (1 : Int32)) hx hb d_Model_print_186 (by decide) ?_
  refine lv_iconst (v := (0 : Int32)) hx hb d_Model_print_187 (by decide) ?_
  obtain ⟨q188, hq188, hM⟩ := gb_some hM
  refine g_backV (g_runV (As := [.int (1 : Int32), .int (0 : Int32)]) C hP (c_Model_say C.2.2.2.2.2.2.2.2.1 hq188) gi_Model_say gm_Model_309 rfl rfl (by decide) (by decide) hl.1 rfl (Nat.le_of_ble_eq_true rfl) d_Model_print_188) hS (fun H locs hP hS => ?_)
  exact t_Model_print_b191 C hM hR ls H locs (lv_sub hl [0] rfl) hP hS
noncomputable def M_Model_print_b51 (x1 : Int32) (x2 : Int32) (x3 : Int32) (s0 : Int32) (u : gSt) : Option ((Int32 × gSt)) :=
  (M_Model_fails s0 (2 : Int32) u).bind fun q52 =>
  if q52.1 = (0 : Int32) then
    (gc (gIn x1 (gLen 61)) <| (M_Model_load (5 : Int32) 59 ((20 : Int32) * (((4 : Int32) * (q52.2.2.2.1 61 (gIx x1))) + x2)) q52.2).bind fun q83 =>
    (M_Model_load (6 : Int32) 63 (0 : Int32) q83).bind fun q94 =>
    gc (gIn (((4 : Int32) * (q52.2.2.2.1 61 (gIx x1))) + x2) (gLen 60)) <| (M_Model_grow (6 : Int32) ((q94.2.2.1 60 (gIx (((4 : Int32) * (q52.2.2.2.1 61 (gIx x1))) + x2))).toInt64) (0 : Int64) q94).bind fun q109 =>
    (some (gsF q109 42 39 (0 : Int32))).bind fun u114 =>
    if x3 = (-1 : Int32) then
      ((M_Model_divisor u114).bind fun q123 =>
      (M_Model_copyNumber (2 : Int32) (5 : Int32) q123).bind fun q129 =>
      (M_Model_quotient (1 : Int32) (2 : Int32) (3 : Int32) q129).bind fun q136 =>
      (M_Model_say (1 : Int32) (0 : Int32) q136).bind fun q142 =>
      (M_Model_copyNumber (2 : Int32) (6 : Int32) q142).bind fun q149 =>
      (M_Model_quotient (1 : Int32) (2 : Int32) (3 : Int32) q149).bind fun q156 =>
      gc (gIn (1 : Int32) (gLen 56)) <| if (q156.2.2.1 56 (gIx (1 : Int32))) = (1 : Int32) then
        ((M_Model_digit (1 : Int32) (0 : Int32) q156).bind fun q172 =>
        if q172.1 = (1 : Int32) then
          (M_Model_print_b191 q172.2)
        else
          (M_Model_print_b179 q172.2))
      else
        (M_Model_print_b179 q156))
    else
      ((gLp M_Model_print_L199 (x3, (0 : Int32), u114)).bind fun y199 =>
      (M_Model_quotient (1 : Int32) (5 : Int32) (6 : Int32) y199.2).bind fun q225 =>
      (M_Model_grow (5 : Int32) (2 : Int64) (0 : Int64) q225).bind fun q234 =>
      (M_Model_order (5 : Int32) (6 : Int32) q234).bind fun q241 =>
      if (0 : Int32) < q241.1 then
        (M_Model_print_b268 y199.1 q241.2)
      else
        (if q241.1 = (0 : Int32) then
          ((M_Model_digit (1 : Int32) (0 : Int32) q241.2).bind fun q259 =>
          if (q259.1 &&& (1 : Int32)) = (1 : Int32) then
            (M_Model_print_b268 y199.1 q259.2)
          else
            (M_Model_print_b275 y199.1 q259.2))
        else
          (M_Model_print_b275 y199.1 q241.2))))
  else
    (M_Model_print_b58 q52.2)
set_option maxHeartbeats 4000000 in
set_option maxRecDepth 100000 in
theorem t_Model_print_b51 (C : gX "TermDeskModel" prog_13_method_63_code 6 (some .int) 4 95 R cells slots cy D ρ A p s m args meth c) {x1 : Int32} {x2 : Int32} {x3 : Int32} {s0 : Int32} {u : gSt} {z : (Int32 × gSt)} (hM : M_Model_print_b51 x1 x2 x3 s0 u = some z) (hR : gRtI p l e R s m args below meth c Q H0 cells slots cy D ρ A prog_13_method_63_code z.1 z.2) : gAt p l e R s m args below meth c Q H0 cells slots cy D ρ A 6 51 [(0, .ref (ρ 42)), (1, .int x1), (2, .int x2), (3, .int x3)] [.int s0, .ref (ρ 42)] u := by
  intro ls H locs hl hP hS
  have hx := C.1
  have hb := C.2.1
  unfold M_Model_print_b51 at hM
  refine lv_iconst (v := (2 : Int32)) hx hb d_Model_print_51 (by decide) ?_
  obtain ⟨q52, hq52, hM⟩ := gb_some hM
  refine g_backI (g_runV (As := [.int s0, .int (2 : Int32)]) C hP (c_Model_fails C.2.2.2.2.2.2.2.2.1 hq52) gi_Model_fails gm_Model_133 rfl rfl (by decide) (by decide) hl.1 rfl (Nat.le_of_ble_eq_true rfl) d_Model_print_52) hS (fun H locs hP hS => ?_)
  refine lv_if_eq (tgt := 60) hx hb d_Model_print_55 (by decide) (fun hc55 => ?_) (fun hc55 => ?_)
  · replace hM := gi_t hc55 hM
    refine lv_iconst (v := (4 : Int32)) hx hb d_Model_print_60 (by decide) ?_
    refine lv_aload_n hx hb d_Model_print_61 rfl (lv_at hl 0 rfl) ?_
    refine g_getR (b := 61) C hP gl_DeskModel_71 rfl rfl rfl d_Model_print_62 ?_
    refine lv_iload_n hx hb d_Model_print_65 rfl (lv_at hl 1 rfl) ?_
    obtain ⟨hi66, hM⟩ := gc_some hM
    refine g_iald C hP rfl hi66 d_Model_print_66 ?_
    refine lv_imul hx hb d_Model_print_67 ?_
    refine lv_iload_n hx hb d_Model_print_68 rfl (lv_at hl 2 rfl) ?_
    refine lv_iadd hx hb d_Model_print_69 ?_
    refine lv_istore (lv' := [(4, .int (((4 : Int32) * (q52.2.2.2.1 61 (gIx x1))) + x2)), (0, .ref (ρ 42)), (1, .int x1), (2, .int x2), (3, .int x3)]) hx hb d_Model_print_70 hl (by decide) rfl (fun ls hl => ?_)
    refine lv_aload_n hx hb d_Model_print_72 rfl (lv_at hl 1 rfl) ?_
    refine lv_iconst (v := (5 : Int32)) hx hb d_Model_print_73 (by decide) ?_
    refine lv_aload_n hx hb d_Model_print_74 rfl (lv_at hl 1 rfl) ?_
    refine g_getR (b := 59) C hP gl_DeskModel_65 rfl rfl rfl d_Model_print_75 ?_
    refine lv_bipush (v := (20 : Int32)) hx hb d_Model_print_78 (by decide) ?_
    refine lv_iload hx hb d_Model_print_80 (lv_at hl 0 rfl) ?_
    refine lv_imul hx hb d_Model_print_82 ?_
    obtain ⟨q83, hq83, hM⟩ := gb_some hM
    refine g_backV (g_runV (As := [.int (5 : Int32), .ref (ρ 59), .int ((20 : Int32) * (((4 : Int32) * (q52.2.2.2.1 61 (gIx x1))) + x2))]) C hP (c_Model_load C.2.2.2.2.2.2.2.2.1 hq83) gi_Model_load gm_Model_268 rfl rfl (by decide) (by decide) hl.1 rfl (Nat.le_of_ble_eq_true rfl) d_Model_print_83) hS (fun H locs hP hS => ?_)
    refine lv_aload_n hx hb d_Model_print_86 rfl (lv_at hl 1 rfl) ?_
    refine lv_bipush (v := (6 : Int32)) hx hb d_Model_print_87 (by decide) ?_
    refine lv_aload_n hx hb d_Model_print_89 rfl (lv_at hl 1 rfl) ?_
    refine g_getR (b := 63) C hP gl_DeskModel_77 rfl rfl rfl d_Model_print_90 ?_
    refine lv_iconst (v := (0 : Int32)) hx hb d_Model_print_93 (by decide) ?_
    obtain ⟨q94, hq94, hM⟩ := gb_some hM
    refine g_backV (g_runV (As := [.int (6 : Int32), .ref (ρ 63), .int (0 : Int32)]) C hP (c_Model_load C.2.2.2.2.2.2.2.2.1 hq94) gi_Model_load gm_Model_268 rfl rfl (by decide) (by decide) hl.1 rfl (Nat.le_of_ble_eq_true rfl) d_Model_print_94) hS (fun H locs hP hS => ?_)
    refine lv_aload_n hx hb d_Model_print_97 rfl (lv_at hl 1 rfl) ?_
    refine lv_bipush (v := (6 : Int32)) hx hb d_Model_print_98 (by decide) ?_
    refine lv_aload_n hx hb d_Model_print_100 rfl (lv_at hl 1 rfl) ?_
    refine g_getR (b := 60) C hP gl_DeskModel_68 rfl rfl rfl d_Model_print_101 ?_
    refine lv_iload hx hb d_Model_print_104 (lv_at hl 0 rfl) ?_
    obtain ⟨hi106, hM⟩ := gc_some hM
    refine g_iald C hP rfl hi106 d_Model_print_106 ?_
    refine lv_i2l (v := (q94.2.2.1 60 (gIx (((4 : Int32) * (q52.2.2.2.1 61 (gIx x1))) + x2))).toInt64) hx hb d_Model_print_107 rfl ?_
    refine lv_lconst (v := 0) hx hb d_Model_print_108 (by decide) ?_
    obtain ⟨q109, hq109, hM⟩ := gb_some hM
    refine g_backV (g_runV (As := [.int (6 : Int32), .long ((q94.2.2.1 60 (gIx (((4 : Int32) * (q52.2.2.2.1 61 (gIx x1))) + x2))).toInt64), .long (0 : Int64)]) C hP (c_Model_grow C.2.2.2.2.2.2.2.2.1 hq109) gi_Model_grow gm_Model_104 rfl rfl (by decide) (by decide) hl.1 rfl (Nat.le_of_ble_eq_true rfl) d_Model_print_109) hS (fun H locs hP hS => ?_)
    refine lv_aload_n hx hb d_Model_print_112 rfl (lv_at hl 1 rfl) ?_
    refine lv_iconst (v := (0 : Int32)) hx hb d_Model_print_113 (by decide) ?_
    obtain ⟨u114, e114, hM⟩ := gb_some hM
    refine g_putI C hP hS gl_DeskModel_297 rfl rfl gq_8_39 d_Model_print_114 (fun H locs hP hS => ?_)
    rw [Option.some.inj e114] at hP
    refine lv_iload_n hx hb d_Model_print_117 rfl (lv_at hl 4 rfl) ?_
    refine lv_iconst (v := (-1 : Int32)) hx hb d_Model_print_118 (by decide) ?_
    refine lv_icmp_ne (tgt := 196) hx hb d_Model_print_119 (by decide) (fun hc119 => ?_) (fun hc119 => ?_)
    · replace hM := gi_f hc119 hM
      refine lv_iconst (v := (0 : Int32)) hx hb d_Model_print_196 (by decide) ?_
      refine lv_istore (lv' := [(5, .int (0 : Int32)), (4, .int (((4 : Int32) * (q52.2.2.2.1 61 (gIx x1))) + x2)), (0, .ref (ρ 42)), (1, .int x1), (2, .int x2), (3, .int x3)]) hx hb d_Model_print_197 hl (by decide) rfl (fun ls hl => ?_)
      obtain ⟨y199, hL199, hM⟩ := gb_some hM
      refine t_Model_print_L199 C hL199 (fun y199_0 hy => ?_) ls H locs (lv_sub hl [2, 5, 0] rfl) hP hS
      · subst hy
        intro ls H locs hl hP hS
        refine lv_aload_n hx hb d_Model_print_220 rfl (lv_at hl 0 rfl) ?_
        refine lv_iconst (v := (1 : Int32)) hx hb d_Model_print_221 (by decide) ?_
        refine lv_iconst (v := (5 : Int32)) hx hb d_Model_print_222 (by decide) ?_
        refine lv_bipush (v := (6 : Int32)) hx hb d_Model_print_223 (by decide) ?_
        obtain ⟨q225, hq225, hM⟩ := gb_some hM
        refine g_backV (g_runV (As := [.int (1 : Int32), .int (5 : Int32), .int (6 : Int32)]) C hP (c_Model_quotient C.2.2.2.2.2.2.2.2.1 hq225) gi_Model_quotient gm_Model_306 rfl rfl (by decide) (by decide) hl.1 rfl (Nat.le_of_ble_eq_true rfl) d_Model_print_225) hS (fun H locs hP hS => ?_)
        refine lv_aload_n hx hb d_Model_print_228 rfl (lv_at hl 0 rfl) ?_
        refine lv_iconst (v := (5 : Int32)) hx hb d_Model_print_229 (by decide) ?_
        refine lv_ldc2 (v := 2) hx hb C.2.2.2.2.1 (C.2.2.2.2.2.1 _ (gWs_at 1396 (by decide +kernel) (by decide +kernel))) d_Model_print_230 ?_
        refine lv_lconst (v := 0) hx hb d_Model_print_233 (by decide) ?_
        obtain ⟨q234, hq234, hM⟩ := gb_some hM
        refine g_backV (g_runV (As := [.int (5 : Int32), .long (2 : Int64), .long (0 : Int64)]) C hP (c_Model_grow C.2.2.2.2.2.2.2.2.1 hq234) gi_Model_grow gm_Model_104 rfl rfl (by decide) (by decide) hl.1 rfl (Nat.le_of_ble_eq_true rfl) d_Model_print_234) hS (fun H locs hP hS => ?_)
        refine lv_aload_n hx hb d_Model_print_237 rfl (lv_at hl 0 rfl) ?_
        refine lv_iconst (v := (5 : Int32)) hx hb d_Model_print_238 (by decide) ?_
        refine lv_bipush (v := (6 : Int32)) hx hb d_Model_print_239 (by decide) ?_
        obtain ⟨q241, hq241, hM⟩ := gb_some hM
        refine g_backI (g_runV (As := [.int (5 : Int32), .int (6 : Int32)]) C hP (c_Model_order C.2.2.2.2.2.2.2.2.1 hq241) gi_Model_order gm_Model_121 rfl rfl (by decide) (by decide) hl.1 rfl (Nat.le_of_ble_eq_true rfl) d_Model_print_241) hS (fun H locs hP hS => ?_)
        refine lv_istore (lv' := [(5, .int q241.1), (0, .ref (ρ 42)), (3, .int y199.1)]) hx hb d_Model_print_244 hl (by decide) rfl (fun ls hl => ?_)
        refine lv_iload hx hb d_Model_print_246 (lv_at hl 0 rfl) ?_
        refine lv_if_gt (tgt := 268) hx hb d_Model_print_248 (by decide) (fun hc248 => ?_) (fun hc248 => ?_)
        · replace hM := gi_t hc248 hM
          exact t_Model_print_b268 C hM hR ls H locs (lv_sub hl [1, 2] rfl) hP hS
        · replace hM := gi_f hc248 hM
          refine lv_iload hx hb d_Model_print_251 (lv_at hl 0 rfl) ?_
          refine lv_if_ne (tgt := 275) hx hb d_Model_print_253 (by decide) (fun hc253 => ?_) (fun hc253 => ?_)
          · replace hM := gi_f hc253 hM
            exact t_Model_print_b275 C hM hR ls H locs (lv_sub hl [1, 2] rfl) hP hS
          · replace hM := gi_t hc253 hM
            refine lv_aload_n hx hb d_Model_print_256 rfl (lv_at hl 1 rfl) ?_
            refine lv_iconst (v := (1 : Int32)) hx hb d_Model_print_257 (by decide) ?_
            refine lv_iconst (v := (0 : Int32)) hx hb d_Model_print_258 (by decide) ?_
            obtain ⟨q259, hq259, hM⟩ := gb_some hM
            refine g_backI (g_runV (As := [.int (1 : Int32), .int (0 : Int32)]) C hP (c_Model_digit C.2.2.2.2.2.2.2.2.1 hq259) gi_Model_digit gm_Model_89 rfl rfl (by decide) (by decide) hl.1 rfl (Nat.le_of_ble_eq_true rfl) d_Model_print_259) hS (fun H locs hP hS => ?_)
            refine lv_iconst (v := (1 : Int32)) hx hb d_Model_print_262 (by decide) ?_
            refine lv_iand hx hb d_Model_print_263 ?_
            refine lv_iconst (v := (1 : Int32)) hx hb d_Model_print_264 (by decide) ?_
            refine lv_icmp_ne (tgt := 275) hx hb d_Model_print_265 (by decide) (fun hc265 => ?_) (fun hc265 => ?_)
            · replace hM := gi_f hc265 hM
              exact t_Model_print_b275 C hM hR ls H locs (lv_sub hl [1, 2] rfl) hP hS
            · replace hM := gi_t hc265 hM
              exact t_Model_print_b268 C hM hR ls H locs (lv_sub hl [1, 2] rfl) hP hS
    · replace hM := gi_t hc119 hM
      refine lv_aload_n hx hb d_Model_print_122 rfl (lv_at hl 1 rfl) ?_
      obtain ⟨q123, hq123, hM⟩ := gb_some hM
      refine g_backV (g_runV (As := []) C hP (c_Model_divisor C.2.2.2.2.2.2.2.2.1 hq123) gi_Model_divisor gm_Model_303 rfl rfl (by decide) (by decide) hl.1 rfl (Nat.le_of_ble_eq_true rfl) d_Model_print_123) hS (fun H locs hP hS => ?_)
      refine lv_aload_n hx hb d_Model_print_126 rfl (lv_at hl 1 rfl) ?_
      refine lv_iconst (v := (2 : Int32)) hx hb d_Model_print_127 (by decide) ?_
      refine lv_iconst (v := (5 : Int32)) hx hb d_Model_print_128 (by decide) ?_
      obtain ⟨q129, hq129, hM⟩ := gb_some hM
      refine g_backV (g_runV (As := [.int (2 : Int32), .int (5 : Int32)]) C hP (c_Model_copyNumber C.2.2.2.2.2.2.2.2.1 hq129) gi_Model_copyNumber gm_Model_112 rfl rfl (by decide) (by decide) hl.1 rfl (Nat.le_of_ble_eq_true rfl) d_Model_print_129) hS (fun H locs hP hS => ?_)
      refine lv_aload_n hx hb d_Model_print_132 rfl (lv_at hl 1 rfl) ?_
      refine lv_iconst (v := (1 : Int32)) hx hb d_Model_print_133 (by decide) ?_
      refine lv_iconst (v := (2 : Int32)) hx hb d_Model_print_134 (by decide) ?_
      refine lv_iconst (v := (3 : Int32)) hx hb d_Model_print_135 (by decide) ?_
      obtain ⟨q136, hq136, hM⟩ := gb_some hM
      refine g_backV (g_runV (As := [.int (1 : Int32), .int (2 : Int32), .int (3 : Int32)]) C hP (c_Model_quotient C.2.2.2.2.2.2.2.2.1 hq136) gi_Model_quotient gm_Model_306 rfl rfl (by decide) (by decide) hl.1 rfl (Nat.le_of_ble_eq_true rfl) d_Model_print_136) hS (fun H locs hP hS => ?_)
      refine lv_aload_n hx hb d_Model_print_139 rfl (lv_at hl 1 rfl) ?_
      refine lv_iconst (v := (1 : Int32)) hx hb d_Model_print_140 (by decide) ?_
      refine lv_iconst (v := (0 : Int32)) hx hb d_Model_print_141 (by decide) ?_
      obtain ⟨q142, hq142, hM⟩ := gb_some hM
      refine g_backV (g_runV (As := [.int (1 : Int32), .int (0 : Int32)]) C hP (c_Model_say C.2.2.2.2.2.2.2.2.1 hq142) gi_Model_say gm_Model_309 rfl rfl (by decide) (by decide) hl.1 rfl (Nat.le_of_ble_eq_true rfl) d_Model_print_142) hS (fun H locs hP hS => ?_)
      refine lv_aload_n hx hb d_Model_print_145 rfl (lv_at hl 1 rfl) ?_
      refine lv_iconst (v := (2 : Int32)) hx hb d_Model_print_146 (by decide) ?_
      refine lv_bipush (v := (6 : Int32)) hx hb d_Model_print_147 (by decide) ?_
      obtain ⟨q149, hq149, hM⟩ := gb_some hM
      refine g_backV (g_runV (As := [.int (2 : Int32), .int (6 : Int32)]) C hP (c_Model_copyNumber C.2.2.2.2.2.2.2.2.1 hq149) gi_Model_copyNumber gm_Model_112 rfl rfl (by decide) (by decide) hl.1 rfl (Nat.le_of_ble_eq_true rfl) d_Model_print_149) hS (fun H locs hP hS => ?_)
      refine lv_aload_n hx hb d_Model_print_152 rfl (lv_at hl 1 rfl) ?_
      refine lv_iconst (v := (1 : Int32)) hx hb d_Model_print_153 (by decide) ?_
      refine lv_iconst (v := (2 : Int32)) hx hb d_Model_print_154 (by decide) ?_
      refine lv_iconst (v := (3 : Int32)) hx hb d_Model_print_155 (by decide) ?_
      obtain ⟨q156, hq156, hM⟩ := gb_some hM
      refine g_backV (g_runV (As := [.int (1 : Int32), .int (2 : Int32), .int (3 : Int32)]) C hP (c_Model_quotient C.2.2.2.2.2.2.2.2.1 hq156) gi_Model_quotient gm_Model_306 rfl rfl (by decide) (by decide) hl.1 rfl (Nat.le_of_ble_eq_true rfl) d_Model_print_156) hS (fun H locs hP hS => ?_)
      refine lv_aload_n hx hb d_Model_print_159 rfl (lv_at hl 1 rfl) ?_
      refine g_getR (b := 56) C hP gl_DeskModel_56 rfl rfl rfl d_Model_print_160 ?_
      refine lv_iconst (v := (1 : Int32)) hx hb d_Model_print_163 (by decide) ?_
      obtain ⟨hi164, hM⟩ := gc_some hM
      refine g_iald C hP rfl hi164 d_Model_print_164 ?_
      refine lv_iconst (v := (1 : Int32)) hx hb d_Model_print_165 (by decide) ?_
      refine lv_icmp_ne (tgt := 179) hx hb d_Model_print_166 (by decide) (fun hc166 => ?_) (fun hc166 => ?_)
      · replace hM := gi_f hc166 hM
        exact t_Model_print_b179 C hM hR ls H locs (lv_sub hl [1] rfl) hP hS
      · replace hM := gi_t hc166 hM
        refine lv_aload_n hx hb d_Model_print_169 rfl (lv_at hl 1 rfl) ?_
        refine lv_iconst (v := (1 : Int32)) hx hb d_Model_print_170 (by decide) ?_
        refine lv_iconst (v := (0 : Int32)) hx hb d_Model_print_171 (by decide) ?_
        obtain ⟨q172, hq172, hM⟩ := gb_some hM
        refine g_backI (g_runV (As := [.int (1 : Int32), .int (0 : Int32)]) C hP (c_Model_digit C.2.2.2.2.2.2.2.2.1 hq172) gi_Model_digit gm_Model_89 rfl rfl (by decide) (by decide) hl.1 rfl (Nat.le_of_ble_eq_true rfl) d_Model_print_172) hS (fun H locs hP hS => ?_)
        refine lv_iconst (v := (1 : Int32)) hx hb d_Model_print_175 (by decide) ?_
        refine lv_icmp_eq (tgt := 191) hx hb d_Model_print_176 (by decide) (fun hc176 => ?_) (fun hc176 => ?_)
        · replace hM := gi_t hc176 hM
          exact t_Model_print_b191 C hM hR ls H locs (lv_sub hl [1] rfl) hP hS
        · replace hM := gi_f hc176 hM
          exact t_Model_print_b179 C hM hR ls H locs (lv_sub hl [1] rfl) hP hS
  · replace hM := gi_f hc55 hM
    exact t_Model_print_b58 C hM hR ls H locs (lv_sub hl [] rfl) hP hS
noncomputable def M_Model_print_b46 (x1 : Int32) (x2 : Int32) (x3 : Int32) (u : gSt) : Option ((Int32 × gSt)) :=
  M_Model_print_b51 x1 x2 x3 (1 : Int32) u
set_option maxHeartbeats 4000000 in
set_option maxRecDepth 100000 in
theorem t_Model_print_b46 (C : gX "TermDeskModel" prog_13_method_63_code 6 (some .int) 4 95 R cells slots cy D ρ A p s m args meth c) {x1 : Int32} {x2 : Int32} {x3 : Int32} {u : gSt} {z : (Int32 × gSt)} (hM : M_Model_print_b46 x1 x2 x3 u = some z) (hR : gRtI p l e R s m args below meth c Q H0 cells slots cy D ρ A prog_13_method_63_code z.1 z.2) : gAt p l e R s m args below meth c Q H0 cells slots cy D ρ A 6 46 [(0, .ref (ρ 42)), (1, .int x1), (2, .int x2), (3, .int x3)] [.ref (ρ 42)] u := by
  intro ls H locs hl hP hS
  have hx := C.1
  have hb := C.2.1
  unfold M_Model_print_b46 at hM
  refine lv_iconst (v := (1 : Int32)) hx hb d_Model_print_46 (by decide) ?_
  refine lv_goto (tgt := 51) hx hb d_Model_print_47 (by decide) ?_
  exact t_Model_print_b51 C hM hR ls H locs (lv_sub hl [0, 1, 2, 3] rfl) hP hS
noncomputable def M_Model_print_b18 (x1 : Int32) (x2 : Int32) (x3 : Int32) (s0 : Int32) (u : gSt) : Option ((Int32 × gSt)) :=
  (M_Model_fails s0 (1 : Int32) u).bind fun q19 =>
  if q19.1 = (0 : Int32) then
    (if x2 < (0 : Int32) then
      (M_Model_print_b46 x1 x2 x3 q19.2)
    else
      (if (3 : Int32) < x2 then
        (M_Model_print_b46 x1 x2 x3 q19.2)
      else
        (if x3 < (-1 : Int32) then
          (M_Model_print_b46 x1 x2 x3 q19.2)
        else
          (if x3 ≤ (40 : Int32) then
            (M_Model_print_b51 x1 x2 x3 (0 : Int32) q19.2)
          else
            (M_Model_print_b46 x1 x2 x3 q19.2)))))
  else
    (M_Model_print_b58 q19.2)
set_option maxHeartbeats 4000000 in
set_option maxRecDepth 100000 in
theorem t_Model_print_b18 (C : gX "TermDeskModel" prog_13_method_63_code 6 (some .int) 4 95 R cells slots cy D ρ A p s m args meth c) {x1 : Int32} {x2 : Int32} {x3 : Int32} {s0 : Int32} {u : gSt} {z : (Int32 × gSt)} (hM : M_Model_print_b18 x1 x2 x3 s0 u = some z) (hR : gRtI p l e R s m args below meth c Q H0 cells slots cy D ρ A prog_13_method_63_code z.1 z.2) : gAt p l e R s m args below meth c Q H0 cells slots cy D ρ A 6 18 [(0, .ref (ρ 42)), (1, .int x1), (2, .int x2), (3, .int x3)] [.int s0, .ref (ρ 42)] u := by
  intro ls H locs hl hP hS
  have hx := C.1
  have hb := C.2.1
  unfold M_Model_print_b18 at hM
  refine lv_iconst (v := (1 : Int32)) hx hb d_Model_print_18 (by decide) ?_
  obtain ⟨q19, hq19, hM⟩ := gb_some hM
  refine g_backI (g_runV (As := [.int s0, .int (1 : Int32)]) C hP (c_Model_fails C.2.2.2.2.2.2.2.2.1 hq19) gi_Model_fails gm_Model_133 rfl rfl (by decide) (by decide) hl.1 rfl (Nat.le_of_ble_eq_true rfl) d_Model_print_19) hS (fun H locs hP hS => ?_)
  refine lv_if_ne (tgt := 58) hx hb d_Model_print_22 (by decide) (fun hc22 => ?_) (fun hc22 => ?_)
  · replace hM := gi_f hc22 hM
    exact t_Model_print_b58 C hM hR ls H locs (lv_sub hl [] rfl) hP hS
  · replace hM := gi_t hc22 hM
    refine lv_aload_n hx hb d_Model_print_25 rfl (lv_at hl 0 rfl) ?_
    refine lv_iload_n hx hb d_Model_print_26 rfl (lv_at hl 2 rfl) ?_
    refine lv_if_lt (tgt := 46) hx hb d_Model_print_27 (by decide) (fun hc27 => ?_) (fun hc27 => ?_)
    · replace hM := gi_t hc27 hM
      exact t_Model_print_b46 C hM hR ls H locs (lv_sub hl [0, 1, 2, 3] rfl) hP hS
    · replace hM := gi_f hc27 hM
      refine lv_iload_n hx hb d_Model_print_30 rfl (lv_at hl 2 rfl) ?_
      refine lv_iconst (v := (3 : Int32)) hx hb d_Model_print_31 (by decide) ?_
      refine lv_icmp_gt (tgt := 46) hx hb d_Model_print_32 (by decide) (fun hc32 => ?_) (fun hc32 => ?_)
      · replace hM := gi_t hc32 hM
        exact t_Model_print_b46 C hM hR ls H locs (lv_sub hl [0, 1, 2, 3] rfl) hP hS
      · replace hM := gi_f hc32 hM
        refine lv_iload_n hx hb d_Model_print_35 rfl (lv_at hl 3 rfl) ?_
        refine lv_iconst (v := (-1 : Int32)) hx hb d_Model_print_36 (by decide) ?_
        refine lv_icmp_lt (tgt := 46) hx hb d_Model_print_37 (by decide) (fun hc37 => ?_) (fun hc37 => ?_)
        · replace hM := gi_t hc37 hM
          exact t_Model_print_b46 C hM hR ls H locs (lv_sub hl [0, 1, 2, 3] rfl) hP hS
        · replace hM := gi_f hc37 hM
          refine lv_iload_n hx hb d_Model_print_40 rfl (lv_at hl 3 rfl) ?_
          refine lv_bipush (v := (40 : Int32)) hx hb d_Model_print_41 (by decide) ?_
          refine lv_icmp_le (tgt := 50) hx hb d_Model_print_43 (by decide) (fun hc43 => ?_) (fun hc43 => ?_)
          · replace hM := gi_t hc43 hM
            refine lv_iconst (v := (0 : Int32)) hx hb d_Model_print_50 (by decide) ?_
            exact t_Model_print_b51 C hM hR ls H locs (lv_sub hl [0, 1, 2, 3] rfl) hP hS
          · replace hM := gi_f hc43 hM
            exact t_Model_print_b46 C hM hR ls H locs (lv_sub hl [0, 1, 2, 3] rfl) hP hS
noncomputable def M_Model_print_b13 (x1 : Int32) (x2 : Int32) (x3 : Int32) (u : gSt) : Option ((Int32 × gSt)) :=
  M_Model_print_b18 x1 x2 x3 (1 : Int32) u
set_option maxHeartbeats 4000000 in
set_option maxRecDepth 100000 in
theorem t_Model_print_b13 (C : gX "TermDeskModel" prog_13_method_63_code 6 (some .int) 4 95 R cells slots cy D ρ A p s m args meth c) {x1 : Int32} {x2 : Int32} {x3 : Int32} {u : gSt} {z : (Int32 × gSt)} (hM : M_Model_print_b13 x1 x2 x3 u = some z) (hR : gRtI p l e R s m args below meth c Q H0 cells slots cy D ρ A prog_13_method_63_code z.1 z.2) : gAt p l e R s m args below meth c Q H0 cells slots cy D ρ A 6 13 [(0, .ref (ρ 42)), (1, .int x1), (2, .int x2), (3, .int x3)] [.ref (ρ 42)] u := by
  intro ls H locs hl hP hS
  have hx := C.1
  have hb := C.2.1
  unfold M_Model_print_b13 at hM
  refine lv_iconst (v := (1 : Int32)) hx hb d_Model_print_13 (by decide) ?_
  refine lv_goto (tgt := 18) hx hb d_Model_print_14 (by decide) ?_
  exact t_Model_print_b18 C hM hR ls H locs (lv_sub hl [0, 1, 2, 3] rfl) hP hS
noncomputable def M_Model_print (x1 : Int32) (x2 : Int32) (x3 : Int32) (u : gSt) : Option ((Int32 × gSt)) :=
  if x1 < (0 : Int32) then
    (M_Model_print_b13 x1 x2 x3 u)
  else
    (if x1 < (u.1 42 36) then
      (M_Model_print_b18 x1 x2 x3 (0 : Int32) u)
    else
      (M_Model_print_b13 x1 x2 x3 u))
set_option maxHeartbeats 4000000 in
set_option maxRecDepth 100000 in
theorem t_Model_print (C : gX "TermDeskModel" prog_13_method_63_code 6 (some .int) 4 95 R cells slots cy D ρ A p s m args meth c) {x1 : Int32} {x2 : Int32} {x3 : Int32} {u : gSt} {z : (Int32 × gSt)} (hM : M_Model_print x1 x2 x3 u = some z) (hR : gRtI p l e R s m args below meth c Q H0 cells slots cy D ρ A prog_13_method_63_code z.1 z.2) : gAt p l e R s m args below meth c Q H0 cells slots cy D ρ A 6 0 [(0, .ref (ρ 42)), (1, .int x1), (2, .int x2), (3, .int x3)] [] u := by
  intro ls H locs hl hP hS
  have hx := C.1
  have hb := C.2.1
  unfold M_Model_print at hM
  refine lv_aload_n hx hb d_Model_print_0 rfl (lv_at hl 0 rfl) ?_
  refine lv_iload_n hx hb d_Model_print_1 rfl (lv_at hl 1 rfl) ?_
  refine lv_if_lt (tgt := 13) hx hb d_Model_print_2 (by decide) (fun hc2 => ?_) (fun hc2 => ?_)
  · replace hM := gi_t hc2 hM
    exact t_Model_print_b13 C hM hR ls H locs (lv_sub hl [0, 1, 2, 3] rfl) hP hS
  · replace hM := gi_f hc2 hM
    refine lv_iload_n hx hb d_Model_print_5 rfl (lv_at hl 1 rfl) ?_
    refine lv_aload_n hx hb d_Model_print_6 rfl (lv_at hl 0 rfl) ?_
    refine g_getI C hP gl_DeskModel_246 rfl rfl d_Model_print_7 ?_
    refine lv_icmp_lt (tgt := 17) hx hb d_Model_print_10 (by decide) (fun hc10 => ?_) (fun hc10 => ?_)
    · replace hM := gi_t hc10 hM
      refine lv_iconst (v := (0 : Int32)) hx hb d_Model_print_17 (by decide) ?_
      exact t_Model_print_b18 C hM hR ls H locs (lv_sub hl [0, 1, 2, 3] rfl) hP hS
    · replace hM := gi_f hc10 hM
      exact t_Model_print_b13 C hM hR ls H locs (lv_sub hl [0, 1, 2, 3] rfl) hP hS
theorem c_Model_print {l : Launch} {cy : Nat → ClassId} {D : va_G} {ρ : Nat → Nat} {A : Nat → Prop} (hD : gD ρ A) {x1 : Int32} {x2 : Int32} {x3 : Int32} {u : gSt} {z : (Int32 × gSt)} (hM : M_Model_print x1 x2 x3 u = some z) : gCtI l y_Model_print prog_13_method_63_code 6 (some .int) 4 95 cy D ρ A [.ref (ρ 42), .int x1, .int x2, .int x3] u z.1 z.2 :=
  g_met (by decide) hD (Nat.le_of_ble_eq_true rfl) (fun p e s m below meth c ls X hl hP => t_Model_print X hM (fun pc ls H locs hd hP hS => g_iret X hP hS hd) ls _ [] hl hP va_S.rf)
end
section
variable {p : Program} {l : Launch} {e : Env} {R : Room} {s : State} {m : MethodId} {args : Array Value} {below : List Frame} {meth : Method} {c : Code} {Q : State → Prop} {H0 : Heap} {cells slots : Nat} {cy : Nat → ClassId} {D : va_G} {ρ : Nat → Nat} {A : Nat → Prop}
def y_Model_character : MethodName := ⟨"TermDeskModel", "character", "(I)I"⟩
theorem gi_Model_character : gMi y_Model_character prog_13_method_65_code 2 (some .int) 1 8 := ⟨(gWs_at 1413 (by decide +kernel) (by decide +kernel)), (gWs_at 1411 (by decide +kernel) (by decide +kernel)), (gWs_at 1412 (by decide +kernel) (by decide +kernel)), (gWs_at 125 (by decide +kernel) (by decide +kernel)), ⟨by decide +kernel, by decide +kernel, by decide +kernel⟩, _, _, rfl⟩
theorem gm_Law_109 : gMk "TermDeskLaw" 109 y_Model_character := Or.inl (gWs_at 1410 (by decide +kernel) (by decide +kernel))
theorem d_Model_character_0 : decode prog_13_method_65_code 0 = .ok (.aload_n 0, 1) := by decide +kernel
theorem d_Model_character_1 : decode prog_13_method_65_code 1 = .ok (.iconst 0, 1) := by decide +kernel
theorem d_Model_character_2 : decode prog_13_method_65_code 2 = .ok (.putfield 86, 3) := by decide +kernel
theorem d_Model_character_5 : decode prog_13_method_65_code 5 = .ok (.iload_n 1, 1) := by decide +kernel
theorem d_Model_character_6 : decode prog_13_method_65_code 6 = .ok (.ifCond .lt 20, 3) := by decide +kernel
theorem d_Model_character_9 : decode prog_13_method_65_code 9 = .ok (.iload_n 1, 1) := by decide +kernel
theorem d_Model_character_10 : decode prog_13_method_65_code 10 = .ok (.aload_n 0, 1) := by decide +kernel
theorem d_Model_character_11 : decode prog_13_method_65_code 11 = .ok (.getfield 297, 3) := by decide +kernel
theorem d_Model_character_14 : decode prog_13_method_65_code 14 = .ok (.if_icmp .ge 12, 3) := by decide +kernel
theorem d_Model_character_17 : decode prog_13_method_65_code 17 = .ok (.aload_n 0, 1) := by decide +kernel
theorem d_Model_character_18 : decode prog_13_method_65_code 18 = .ok (.getfield 80, 3) := by decide +kernel
theorem d_Model_character_21 : decode prog_13_method_65_code 21 = .ok (.iload_n 1, 1) := by decide +kernel
theorem d_Model_character_22 : decode prog_13_method_65_code 22 = .ok (.iaload, 1) := by decide +kernel
theorem d_Model_character_23 : decode prog_13_method_65_code 23 = .ok (.goto 4, 3) := by decide +kernel
theorem d_Model_character_26 : decode prog_13_method_65_code 26 = .ok (.iconst (-1), 1) := by decide +kernel
theorem d_Model_character_27 : decode prog_13_method_65_code 27 = .ok (.ireturn, 1) := by decide +kernel
noncomputable def M_Model_character_b27 (s0 : Int32) (u : gSt) : Option ((Int32 × gSt)) :=
  some (s0, u)
set_option maxHeartbeats 4000000 in
set_option maxRecDepth 100000 in
theorem t_Model_character_b27 (C : gX "TermDeskModel" prog_13_method_65_code 2 (some .int) 0 0 R cells slots cy D ρ A p s m args meth c) {s0 : Int32} {u : gSt} {z : (Int32 × gSt)} (hM : M_Model_character_b27 s0 u = some z) (hR : gRtI p l e R s m args below meth c Q H0 cells slots cy D ρ A prog_13_method_65_code z.1 z.2) : gAt p l e R s m args below meth c Q H0 cells slots cy D ρ A 2 27 [] [.int s0] u := by
  intro ls H locs hl hP hS
  have hx := C.1
  have hb := C.2.1
  unfold M_Model_character_b27 at hM
  obtain rfl := Option.some.inj hM
  exact hR _ ls H locs d_Model_character_27 hP hS
noncomputable def M_Model_character_b26 (u : gSt) : Option ((Int32 × gSt)) :=
  M_Model_character_b27 (-1 : Int32) u
set_option maxHeartbeats 4000000 in
set_option maxRecDepth 100000 in
theorem t_Model_character_b26 (C : gX "TermDeskModel" prog_13_method_65_code 2 (some .int) 0 0 R cells slots cy D ρ A p s m args meth c) {u : gSt} {z : (Int32 × gSt)} (hM : M_Model_character_b26 u = some z) (hR : gRtI p l e R s m args below meth c Q H0 cells slots cy D ρ A prog_13_method_65_code z.1 z.2) : gAt p l e R s m args below meth c Q H0 cells slots cy D ρ A 2 26 [] [] u := by
  intro ls H locs hl hP hS
  have hx := C.1
  have hb := C.2.1
  unfold M_Model_character_b26 at hM
  refine lv_iconst (v := (-1 : Int32)) hx hb d_Model_character_26 (by decide) ?_
  exact t_Model_character_b27 C hM hR ls H locs (lv_sub hl [] rfl) hP hS
noncomputable def M_Model_character (x1 : Int32) (u : gSt) : Option ((Int32 × gSt)) :=
  (some (gsF u 42 41 (0 : Int32))).bind fun u2 =>
  if x1 < (0 : Int32) then
    (M_Model_character_b26 u2)
  else
    (if (u2.1 42 39) ≤ x1 then
      (M_Model_character_b26 u2)
    else
      (gc (gIn x1 (gLen 64)) <| M_Model_character_b27 (u2.2.2.1 64 (gIx x1)) u2))
set_option maxHeartbeats 4000000 in
set_option maxRecDepth 100000 in
theorem t_Model_character (C : gX "TermDeskModel" prog_13_method_65_code 2 (some .int) 0 0 R cells slots cy D ρ A p s m args meth c) {x1 : Int32} {u : gSt} {z : (Int32 × gSt)} (hM : M_Model_character x1 u = some z) (hR : gRtI p l e R s m args below meth c Q H0 cells slots cy D ρ A prog_13_method_65_code z.1 z.2) : gAt p l e R s m args below meth c Q H0 cells slots cy D ρ A 2 0 [(0, .ref (ρ 42)), (1, .int x1)] [] u := by
  intro ls H locs hl hP hS
  have hx := C.1
  have hb := C.2.1
  unfold M_Model_character at hM
  refine lv_aload_n hx hb d_Model_character_0 rfl (lv_at hl 0 rfl) ?_
  refine lv_iconst (v := (0 : Int32)) hx hb d_Model_character_1 (by decide) ?_
  obtain ⟨u2, e2, hM⟩ := gb_some hM
  refine g_putI C hP hS gl_DeskModel_86 rfl rfl gq_8_41 d_Model_character_2 (fun H locs hP hS => ?_)
  rw [Option.some.inj e2] at hP
  refine lv_iload_n hx hb d_Model_character_5 rfl (lv_at hl 1 rfl) ?_
  refine lv_if_lt (tgt := 26) hx hb d_Model_character_6 (by decide) (fun hc6 => ?_) (fun hc6 => ?_)
  · replace hM := gi_t hc6 hM
    exact t_Model_character_b26 C hM hR ls H locs (lv_sub hl [] rfl) hP hS
  · replace hM := gi_f hc6 hM
    refine lv_iload_n hx hb d_Model_character_9 rfl (lv_at hl 1 rfl) ?_
    refine lv_aload_n hx hb d_Model_character_10 rfl (lv_at hl 0 rfl) ?_
    refine g_getI C hP gl_DeskModel_297 rfl rfl d_Model_character_11 ?_
    refine lv_icmp_ge (tgt := 26) hx hb d_Model_character_14 (by decide) (fun hc14 => ?_) (fun hc14 => ?_)
    · replace hM := gi_t hc14 hM
      exact t_Model_character_b26 C hM hR ls H locs (lv_sub hl [] rfl) hP hS
    · replace hM := gi_f hc14 hM
      refine lv_aload_n hx hb d_Model_character_17 rfl (lv_at hl 0 rfl) ?_
      refine g_getR (b := 64) C hP gl_DeskModel_80 rfl rfl rfl d_Model_character_18 ?_
      refine lv_iload_n hx hb d_Model_character_21 rfl (lv_at hl 1 rfl) ?_
      obtain ⟨hi22, hM⟩ := gc_some hM
      refine g_iald C hP rfl hi22 d_Model_character_22 ?_
      refine lv_goto (tgt := 27) hx hb d_Model_character_23 (by decide) ?_
      exact t_Model_character_b27 C hM hR ls H locs (lv_sub hl [] rfl) hP hS
theorem c_Model_character {l : Launch} {cy : Nat → ClassId} {D : va_G} {ρ : Nat → Nat} {A : Nat → Prop} (hD : gD ρ A) {x1 : Int32} {u : gSt} {z : (Int32 × gSt)} (hM : M_Model_character x1 u = some z) : gCtI l y_Model_character prog_13_method_65_code 2 (some .int) 0 0 cy D ρ A [.ref (ρ 42), .int x1] u z.1 z.2 :=
  g_met (by decide) hD (Nat.le_of_ble_eq_true rfl) (fun p e s m below meth c ls X hl hP => t_Model_character X hM (fun pc ls H locs hd hP hS => g_iret X hP hS hd) ls _ [] hl hP va_S.rf)
end
section
variable {p : Program} {l : Launch} {e : Env} {R : Room} {s : State} {m : MethodId} {args : Array Value} {below : List Frame} {meth : Method} {c : Code} {Q : State → Prop} {H0 : Heap} {cells slots : Nat} {cy : Nat → ClassId} {D : va_G} {ρ : Nat → Nat} {A : Nat → Prop}
def y_Model_clear : MethodName := ⟨"TermDeskModel", "clear", "()V"⟩
theorem gi_Model_clear : gMi y_Model_clear prog_13_method_66_code 2 none 0 8 := ⟨(gWs_at 1417 (by decide +kernel) (by decide +kernel)), (gWs_at 1415 (by decide +kernel) (by decide +kernel)), (gWs_at 1416 (by decide +kernel) (by decide +kernel)), (gWs_at 125 (by decide +kernel) (by decide +kernel)), ⟨by decide +kernel, by decide +kernel, by decide +kernel⟩, _, _, rfl⟩
theorem gm_Law_113 : gMk "TermDeskLaw" 113 y_Model_clear := Or.inl (gWs_at 1414 (by decide +kernel) (by decide +kernel))
theorem d_Model_clear_0 : decode prog_13_method_66_code 0 = .ok (.aload_n 0, 1) := by decide +kernel
theorem d_Model_clear_1 : decode prog_13_method_66_code 1 = .ok (.iconst 0, 1) := by decide +kernel
theorem d_Model_clear_2 : decode prog_13_method_66_code 2 = .ok (.putfield 86, 3) := by decide +kernel
theorem d_Model_clear_5 : decode prog_13_method_66_code 5 = .ok (.aload_n 0, 1) := by decide +kernel
theorem d_Model_clear_6 : decode prog_13_method_66_code 6 = .ok (.iconst 0, 1) := by decide +kernel
theorem d_Model_clear_7 : decode prog_13_method_66_code 7 = .ok (.putfield 130, 3) := by decide +kernel
theorem d_Model_clear_10 : decode prog_13_method_66_code 10 = .ok (.aload_n 0, 1) := by decide +kernel
theorem d_Model_clear_11 : decode prog_13_method_66_code 11 = .ok (.iconst 0, 1) := by decide +kernel
theorem d_Model_clear_12 : decode prog_13_method_66_code 12 = .ok (.putfield 137, 3) := by decide +kernel
theorem d_Model_clear_15 : decode prog_13_method_66_code 15 = .ok (.aload_n 0, 1) := by decide +kernel
theorem d_Model_clear_16 : decode prog_13_method_66_code 16 = .ok (.iconst (-1), 1) := by decide +kernel
theorem d_Model_clear_17 : decode prog_13_method_66_code 17 = .ok (.putfield 14, 3) := by decide +kernel
theorem d_Model_clear_20 : decode prog_13_method_66_code 20 = .ok (.aload_n 0, 1) := by decide +kernel
theorem d_Model_clear_21 : decode prog_13_method_66_code 21 = .ok (.iconst 0, 1) := by decide +kernel
theorem d_Model_clear_22 : decode prog_13_method_66_code 22 = .ok (.putfield 157, 3) := by decide +kernel
theorem d_Model_clear_25 : decode prog_13_method_66_code 25 = .ok (.aload_n 0, 1) := by decide +kernel
theorem d_Model_clear_26 : decode prog_13_method_66_code 26 = .ok (.iconst 0, 1) := by decide +kernel
theorem d_Model_clear_27 : decode prog_13_method_66_code 27 = .ok (.putfield 164, 3) := by decide +kernel
theorem d_Model_clear_30 : decode prog_13_method_66_code 30 = .ok (.aload_n 0, 1) := by decide +kernel
theorem d_Model_clear_31 : decode prog_13_method_66_code 31 = .ok (.iconst 0, 1) := by decide +kernel
theorem d_Model_clear_32 : decode prog_13_method_66_code 32 = .ok (.putfield 184, 3) := by decide +kernel
theorem d_Model_clear_35 : decode prog_13_method_66_code 35 = .ok (.aload_n 0, 1) := by decide +kernel
theorem d_Model_clear_36 : decode prog_13_method_66_code 36 = .ok (.iconst 0, 1) := by decide +kernel
theorem d_Model_clear_37 : decode prog_13_method_66_code 37 = .ok (.putfield 197, 3) := by decide +kernel
theorem d_Model_clear_40 : decode prog_13_method_66_code 40 = .ok (.aload_n 0, 1) := by decide +kernel
theorem d_Model_clear_41 : decode prog_13_method_66_code 41 = .ok (.iconst 0, 1) := by decide +kernel
theorem d_Model_clear_42 : decode prog_13_method_66_code 42 = .ok (.putfield 207, 3) := by decide +kernel
theorem d_Model_clear_45 : decode prog_13_method_66_code 45 = .ok (.aload_n 0, 1) := by decide +kernel
theorem d_Model_clear_46 : decode prog_13_method_66_code 46 = .ok (.iconst 0, 1) := by decide +kernel
theorem d_Model_clear_47 : decode prog_13_method_66_code 47 = .ok (.putfield 230, 3) := by decide +kernel
theorem d_Model_clear_50 : decode prog_13_method_66_code 50 = .ok (.aload_n 0, 1) := by decide +kernel
theorem d_Model_clear_51 : decode prog_13_method_66_code 51 = .ok (.iconst 0, 1) := by decide +kernel
theorem d_Model_clear_52 : decode prog_13_method_66_code 52 = .ok (.putfield 246, 3) := by decide +kernel
theorem d_Model_clear_55 : decode prog_13_method_66_code 55 = .ok (.aload_n 0, 1) := by decide +kernel
theorem d_Model_clear_56 : decode prog_13_method_66_code 56 = .ok (.iconst 0, 1) := by decide +kernel
theorem d_Model_clear_57 : decode prog_13_method_66_code 57 = .ok (.putfield 297, 3) := by decide +kernel
theorem d_Model_clear_60 : decode prog_13_method_66_code 60 = .ok (.aload_n 0, 1) := by decide +kernel
theorem d_Model_clear_61 : decode prog_13_method_66_code 61 = .ok (.iconst 0, 1) := by decide +kernel
theorem d_Model_clear_62 : decode prog_13_method_66_code 62 = .ok (.putfield 200, 3) := by decide +kernel
theorem d_Model_clear_65 : decode prog_13_method_66_code 65 = .ok (.iconst 0, 1) := by decide +kernel
theorem d_Model_clear_66 : decode prog_13_method_66_code 66 = .ok (.istore_n 1, 1) := by decide +kernel
theorem d_Model_clear_67 : decode prog_13_method_66_code 67 = .ok (.iload_n 1, 1) := by decide +kernel
theorem d_Model_clear_68 : decode prog_13_method_66_code 68 = .ok (.ldc 7, 2) := by decide +kernel
theorem d_Model_clear_70 : decode prog_13_method_66_code 70 = .ok (.if_icmp .ge 37, 3) := by decide +kernel
theorem d_Model_clear_73 : decode prog_13_method_66_code 73 = .ok (.aload_n 0, 1) := by decide +kernel
theorem d_Model_clear_74 : decode prog_13_method_66_code 74 = .ok (.getfield 37, 3) := by decide +kernel
theorem d_Model_clear_77 : decode prog_13_method_66_code 77 = .ok (.iload_n 1, 1) := by decide +kernel
theorem d_Model_clear_78 : decode prog_13_method_66_code 78 = .ok (.iconst 0, 1) := by decide +kernel
theorem d_Model_clear_79 : decode prog_13_method_66_code 79 = .ok (.bastore, 1) := by decide +kernel
theorem d_Model_clear_80 : decode prog_13_method_66_code 80 = .ok (.aload_n 0, 1) := by decide +kernel
theorem d_Model_clear_81 : decode prog_13_method_66_code 81 = .ok (.getfield 41, 3) := by decide +kernel
theorem d_Model_clear_84 : decode prog_13_method_66_code 84 = .ok (.iload_n 1, 1) := by decide +kernel
theorem d_Model_clear_85 : decode prog_13_method_66_code 85 = .ok (.iconst 0, 1) := by decide +kernel
theorem d_Model_clear_86 : decode prog_13_method_66_code 86 = .ok (.bastore, 1) := by decide +kernel
theorem d_Model_clear_87 : decode prog_13_method_66_code 87 = .ok (.aload_n 0, 1) := by decide +kernel
theorem d_Model_clear_88 : decode prog_13_method_66_code 88 = .ok (.getfield 44, 3) := by decide +kernel
theorem d_Model_clear_91 : decode prog_13_method_66_code 91 = .ok (.iload_n 1, 1) := by decide +kernel
theorem d_Model_clear_92 : decode prog_13_method_66_code 92 = .ok (.iconst 0, 1) := by decide +kernel
theorem d_Model_clear_93 : decode prog_13_method_66_code 93 = .ok (.bastore, 1) := by decide +kernel
theorem d_Model_clear_94 : decode prog_13_method_66_code 94 = .ok (.aload_n 0, 1) := by decide +kernel
theorem d_Model_clear_95 : decode prog_13_method_66_code 95 = .ok (.getfield 47, 3) := by decide +kernel
theorem d_Model_clear_98 : decode prog_13_method_66_code 98 = .ok (.iload_n 1, 1) := by decide +kernel
theorem d_Model_clear_99 : decode prog_13_method_66_code 99 = .ok (.iconst 0, 1) := by decide +kernel
theorem d_Model_clear_100 : decode prog_13_method_66_code 100 = .ok (.bastore, 1) := by decide +kernel
theorem d_Model_clear_101 : decode prog_13_method_66_code 101 = .ok (.iinc 1 1, 3) := by decide +kernel
theorem d_Model_clear_104 : decode prog_13_method_66_code 104 = .ok (.goto (-37), 3) := by decide +kernel
theorem d_Model_clear_107 : decode prog_13_method_66_code 107 = .ok (.iconst 0, 1) := by decide +kernel
theorem d_Model_clear_108 : decode prog_13_method_66_code 108 = .ok (.istore_n 1, 1) := by decide +kernel
theorem d_Model_clear_109 : decode prog_13_method_66_code 109 = .ok (.iload_n 1, 1) := by decide +kernel
theorem d_Model_clear_110 : decode prog_13_method_66_code 110 = .ok (.sipush 200, 3) := by decide +kernel
theorem d_Model_clear_113 : decode prog_13_method_66_code 113 = .ok (.if_icmp .ge 16, 3) := by decide +kernel
theorem d_Model_clear_116 : decode prog_13_method_66_code 116 = .ok (.aload_n 0, 1) := by decide +kernel
theorem d_Model_clear_117 : decode prog_13_method_66_code 117 = .ok (.getfield 50, 3) := by decide +kernel
theorem d_Model_clear_120 : decode prog_13_method_66_code 120 = .ok (.iload_n 1, 1) := by decide +kernel
theorem d_Model_clear_121 : decode prog_13_method_66_code 121 = .ok (.iconst 0, 1) := by decide +kernel
theorem d_Model_clear_122 : decode prog_13_method_66_code 122 = .ok (.bastore, 1) := by decide +kernel
theorem d_Model_clear_123 : decode prog_13_method_66_code 123 = .ok (.iinc 1 1, 3) := by decide +kernel
theorem d_Model_clear_126 : decode prog_13_method_66_code 126 = .ok (.goto (-17), 3) := by decide +kernel
theorem d_Model_clear_129 : decode prog_13_method_66_code 129 = .ok (.return_, 1) := by decide +kernel
noncomputable def M_Model_clear_b67 (x1 : Int32) (u : gSt) : Option ((Int32 × gSt) ⊕ ((gSt))) :=
  if (40000 : Int32) ≤ x1 then
    (some (.inr u))
  else
    (gc (gIn x1 (gLen 50)) <| (some (gsA u 50 (gIx x1) (0 : Int32))).bind fun u79 =>
    gc (gIn x1 (gLen 51)) <| (some (gsA u79 51 (gIx x1) (0 : Int32))).bind fun u86 =>
    gc (gIn x1 (gLen 52)) <| (some (gsA u86 52 (gIx x1) (0 : Int32))).bind fun u93 =>
    gc (gIn x1 (gLen 53)) <| (some (gsA u93 53 (gIx x1) (0 : Int32))).bind fun u100 =>
    some (.inl (x1 + (1 : Int32), u100)))
set_option maxHeartbeats 4000000 in
set_option maxRecDepth 100000 in
theorem t_Model_clear_b67 (C : gX "TermDeskModel" prog_13_method_66_code 2 none 0 0 R cells slots cy D ρ A p s m args meth c) {x1 : Int32} {u : gSt} {z : (Int32 × gSt) ⊕ ((gSt))} (hM : M_Model_clear_b67 x1 u = some z) (hN : ∀ x1' u', z = .inl (x1', u') → gAt p l e R s m args below meth c Q H0 cells slots cy D ρ A 2 67 [(0, .ref (ρ 42)), (1, .int (x1'))] [] (u')) (hE0 : ∀ u', z = .inr u' → gAt p l e R s m args below meth c Q H0 cells slots cy D ρ A 2 107 [(0, .ref (ρ 42))] [] (u')) : gAt p l e R s m args below meth c Q H0 cells slots cy D ρ A 2 67 [(0, .ref (ρ 42)), (1, .int x1)] [] u := by
  intro ls H locs hl hP hS
  have hx := C.1
  have hb := C.2.1
  unfold M_Model_clear_b67 at hM
  refine lv_iload_n hx hb d_Model_clear_67 rfl (lv_at hl 1 rfl) ?_
  refine lv_ldc (v := (40000 : Int32)) hx hb C.2.2.2.2.1 (C.2.2.2.2.2.1 _ (gWs_at 1027 (by decide +kernel) (by decide +kernel))) d_Model_clear_68 ?_
  refine lv_icmp_ge (tgt := 107) hx hb d_Model_clear_70 (by decide) (fun hc70 => ?_) (fun hc70 => ?_)
  · replace hM := gi_t hc70 hM
    exact hE0 _ (Option.some.inj hM).symm ls H locs (lv_sub hl [0] rfl) hP hS
  · replace hM := gi_f hc70 hM
    refine lv_aload_n hx hb d_Model_clear_73 rfl (lv_at hl 0 rfl) ?_
    refine g_getR (b := 50) C hP gl_DeskModel_37 rfl rfl rfl d_Model_clear_74 ?_
    refine lv_iload_n hx hb d_Model_clear_77 rfl (lv_at hl 1 rfl) ?_
    refine lv_iconst (v := (0 : Int32)) hx hb d_Model_clear_78 (by decide) ?_
    obtain ⟨hi79, hM⟩ := gc_some hM
    obtain ⟨u79, e79, hM⟩ := gb_some hM
    refine g_zast C hP hS rfl hi79 rfl d_Model_clear_79 (fun H locs hP hS => ?_)
    rw [Option.some.inj e79] at hP
    refine lv_aload_n hx hb d_Model_clear_80 rfl (lv_at hl 0 rfl) ?_
    refine g_getR (b := 51) C hP gl_DeskModel_41 rfl rfl rfl d_Model_clear_81 ?_
    refine lv_iload_n hx hb d_Model_clear_84 rfl (lv_at hl 1 rfl) ?_
    refine lv_iconst (v := (0 : Int32)) hx hb d_Model_clear_85 (by decide) ?_
    obtain ⟨hi86, hM⟩ := gc_some hM
    obtain ⟨u86, e86, hM⟩ := gb_some hM
    refine g_zast C hP hS rfl hi86 rfl d_Model_clear_86 (fun H locs hP hS => ?_)
    rw [Option.some.inj e86] at hP
    refine lv_aload_n hx hb d_Model_clear_87 rfl (lv_at hl 0 rfl) ?_
    refine g_getR (b := 52) C hP gl_DeskModel_44 rfl rfl rfl d_Model_clear_88 ?_
    refine lv_iload_n hx hb d_Model_clear_91 rfl (lv_at hl 1 rfl) ?_
    refine lv_iconst (v := (0 : Int32)) hx hb d_Model_clear_92 (by decide) ?_
    obtain ⟨hi93, hM⟩ := gc_some hM
    obtain ⟨u93, e93, hM⟩ := gb_some hM
    refine g_zast C hP hS rfl hi93 rfl d_Model_clear_93 (fun H locs hP hS => ?_)
    rw [Option.some.inj e93] at hP
    refine lv_aload_n hx hb d_Model_clear_94 rfl (lv_at hl 0 rfl) ?_
    refine g_getR (b := 53) C hP gl_DeskModel_47 rfl rfl rfl d_Model_clear_95 ?_
    refine lv_iload_n hx hb d_Model_clear_98 rfl (lv_at hl 1 rfl) ?_
    refine lv_iconst (v := (0 : Int32)) hx hb d_Model_clear_99 (by decide) ?_
    obtain ⟨hi100, hM⟩ := gc_some hM
    obtain ⟨u100, e100, hM⟩ := gb_some hM
    refine g_zast C hP hS rfl hi100 rfl d_Model_clear_100 (fun H locs hP hS => ?_)
    rw [Option.some.inj e100] at hP
    refine lv_iinc (k := 1) (v := x1 + (1 : Int32)) (lv' := [(1, .int (x1 + (1 : Int32))), (0, .ref (ρ 42))]) hx hb d_Model_clear_101 hl rfl (congrArg (fun z => x1 + z) (by decide)) (by decide) rfl (fun ls hl => ?_)
    refine lv_goto (tgt := 67) hx hb d_Model_clear_104 (by decide) ?_
    exact hN _ _ (Option.some.inj hM).symm ls H locs (lv_sub hl [1, 0] rfl) hP hS
noncomputable def M_Model_clear_L67 : (Int32 × gSt) → Option ((Int32 × gSt) ⊕ ((gSt))) := fun x => M_Model_clear_b67 x.1 x.2
theorem t_Model_clear_L67 (C : gX "TermDeskModel" prog_13_method_66_code 2 none 0 0 R cells slots cy D ρ A p s m args meth c) {x1 : Int32} {u : gSt} {yy : (gSt)} (hL : gLp M_Model_clear_L67 (x1, u) = some yy) (hE0 : (∀ y', yy = y' → gAt p l e R s m args below meth c Q H0 cells slots cy D ρ A 2 107 [(0, .ref (ρ 42))] [] (y'))) : gAt p l e R s m args below meth c Q H0 cells slots cy D ρ A 2 67 [(0, .ref (ρ 42)), (1, .int x1)] [] u :=
  g_loop (f := M_Model_clear_L67) (P := fun x => gAt p l e R s m args below meth c Q H0 cells slots cy D ρ A 2 67 [(0, .ref (ρ 42)), (1, .int x.1)] [] x.2) (E := fun yy => (∀ y', yy = y' → gAt p l e R s m args below meth c Q H0 cells slots cy D ρ A 2 107 [(0, .ref (ρ 42))] [] (y'))) (fun x z hf hN hE => t_Model_clear_b67 C hf (fun x1' u' h => hN (x1', u') h) (fun u' h => (hE _ h) u' rfl)) hL hE0
noncomputable def M_Model_clear_b109 (x1 : Int32) (u : gSt) : Option ((Int32 × gSt) ⊕ ((gSt))) :=
  if (200 : Int32) ≤ x1 then
    (some (.inr u))
  else
    (gc (gIn x1 (gLen 54)) <| (some (gsA u 54 (gIx x1) (0 : Int32))).bind fun u122 =>
    some (.inl (x1 + (1 : Int32), u122)))
set_option maxHeartbeats 4000000 in
set_option maxRecDepth 100000 in
theorem t_Model_clear_b109 (C : gX "TermDeskModel" prog_13_method_66_code 2 none 0 0 R cells slots cy D ρ A p s m args meth c) {x1 : Int32} {u : gSt} {z : (Int32 × gSt) ⊕ ((gSt))} (hM : M_Model_clear_b109 x1 u = some z) (hN : ∀ x1' u', z = .inl (x1', u') → gAt p l e R s m args below meth c Q H0 cells slots cy D ρ A 2 109 [(0, .ref (ρ 42)), (1, .int (x1'))] [] (u')) (hE0 : ∀ u', z = .inr u' → gAt p l e R s m args below meth c Q H0 cells slots cy D ρ A 2 129 [] [] (u')) : gAt p l e R s m args below meth c Q H0 cells slots cy D ρ A 2 109 [(0, .ref (ρ 42)), (1, .int x1)] [] u := by
  intro ls H locs hl hP hS
  have hx := C.1
  have hb := C.2.1
  unfold M_Model_clear_b109 at hM
  refine lv_iload_n hx hb d_Model_clear_109 rfl (lv_at hl 1 rfl) ?_
  refine lv_sipush (v := (200 : Int32)) hx hb d_Model_clear_110 (by decide) ?_
  refine lv_icmp_ge (tgt := 129) hx hb d_Model_clear_113 (by decide) (fun hc113 => ?_) (fun hc113 => ?_)
  · replace hM := gi_t hc113 hM
    exact hE0 _ (Option.some.inj hM).symm ls H locs (lv_sub hl [] rfl) hP hS
  · replace hM := gi_f hc113 hM
    refine lv_aload_n hx hb d_Model_clear_116 rfl (lv_at hl 0 rfl) ?_
    refine g_getR (b := 54) C hP gl_DeskModel_50 rfl rfl rfl d_Model_clear_117 ?_
    refine lv_iload_n hx hb d_Model_clear_120 rfl (lv_at hl 1 rfl) ?_
    refine lv_iconst (v := (0 : Int32)) hx hb d_Model_clear_121 (by decide) ?_
    obtain ⟨hi122, hM⟩ := gc_some hM
    obtain ⟨u122, e122, hM⟩ := gb_some hM
    refine g_zast C hP hS rfl hi122 rfl d_Model_clear_122 (fun H locs hP hS => ?_)
    rw [Option.some.inj e122] at hP
    refine lv_iinc (k := 1) (v := x1 + (1 : Int32)) (lv' := [(1, .int (x1 + (1 : Int32))), (0, .ref (ρ 42))]) hx hb d_Model_clear_123 hl rfl (congrArg (fun z => x1 + z) (by decide)) (by decide) rfl (fun ls hl => ?_)
    refine lv_goto (tgt := 109) hx hb d_Model_clear_126 (by decide) ?_
    exact hN _ _ (Option.some.inj hM).symm ls H locs (lv_sub hl [1, 0] rfl) hP hS
noncomputable def M_Model_clear_L109 : (Int32 × gSt) → Option ((Int32 × gSt) ⊕ ((gSt))) := fun x => M_Model_clear_b109 x.1 x.2
theorem t_Model_clear_L109 (C : gX "TermDeskModel" prog_13_method_66_code 2 none 0 0 R cells slots cy D ρ A p s m args meth c) {x1 : Int32} {u : gSt} {yy : (gSt)} (hL : gLp M_Model_clear_L109 (x1, u) = some yy) (hE0 : (∀ y', yy = y' → gAt p l e R s m args below meth c Q H0 cells slots cy D ρ A 2 129 [] [] (y'))) : gAt p l e R s m args below meth c Q H0 cells slots cy D ρ A 2 109 [(0, .ref (ρ 42)), (1, .int x1)] [] u :=
  g_loop (f := M_Model_clear_L109) (P := fun x => gAt p l e R s m args below meth c Q H0 cells slots cy D ρ A 2 109 [(0, .ref (ρ 42)), (1, .int x.1)] [] x.2) (E := fun yy => (∀ y', yy = y' → gAt p l e R s m args below meth c Q H0 cells slots cy D ρ A 2 129 [] [] (y'))) (fun x z hf hN hE => t_Model_clear_b109 C hf (fun x1' u' h => hN (x1', u') h) (fun u' h => (hE _ h) u' rfl)) hL hE0
noncomputable def M_Model_clear (u : gSt) : Option (gSt) :=
  (some (gsF u 42 41 (0 : Int32))).bind fun u2 =>
  (some (gsF u2 42 1 (0 : Int32))).bind fun u7 =>
  (some (gsF u7 42 2 (0 : Int32))).bind fun u12 =>
  (some (gsF u12 42 3 (-1 : Int32))).bind fun u17 =>
  (some (gsF u17 42 7 (0 : Int32))).bind fun u22 =>
  (some (gsF u22 42 10 (0 : Int32))).bind fun u27 =>
  (some (gsF u27 42 11 (0 : Int32))).bind fun u32 =>
  (some (gsF u32 42 18 (0 : Int32))).bind fun u37 =>
  (some (gsF u37 42 19 (0 : Int32))).bind fun u42 =>
  (some (gsF u42 42 21 (0 : Int32))).bind fun u47 =>
  (some (gsF u47 42 36 (0 : Int32))).bind fun u52 =>
  (some (gsF u52 42 39 (0 : Int32))).bind fun u57 =>
  (some (gsF u57 42 17 (0 : Int32))).bind fun u62 =>
  (gLp M_Model_clear_L67 ((0 : Int32), u62)).bind fun y67 =>
  (gLp M_Model_clear_L109 ((0 : Int32), y67)).bind fun y109 =>
  some y109
set_option maxHeartbeats 4000000 in
set_option maxRecDepth 100000 in
theorem t_Model_clear (C : gX "TermDeskModel" prog_13_method_66_code 2 none 0 0 R cells slots cy D ρ A p s m args meth c) {u : gSt} {z : gSt} (hM : M_Model_clear u = some z) (hR : gRtV p l e R s m args below meth c Q H0 cells slots cy D ρ A prog_13_method_66_code z) : gAt p l e R s m args below meth c Q H0 cells slots cy D ρ A 2 0 [(0, .ref (ρ 42))] [] u := by
  intro ls H locs hl hP hS
  have hx := C.1
  have hb := C.2.1
  unfold M_Model_clear at hM
  refine lv_aload_n hx hb d_Model_clear_0 rfl (lv_at hl 0 rfl) ?_
  refine lv_iconst (v := (0 : Int32)) hx hb d_Model_clear_1 (by decide) ?_
  obtain ⟨u2, e2, hM⟩ := gb_some hM
  refine g_putI C hP hS gl_DeskModel_86 rfl rfl gq_8_41 d_Model_clear_2 (fun H locs hP hS => ?_)
  rw [Option.some.inj e2] at hP
  refine lv_aload_n hx hb d_Model_clear_5 rfl (lv_at hl 0 rfl) ?_
  refine lv_iconst (v := (0 : Int32)) hx hb d_Model_clear_6 (by decide) ?_
  obtain ⟨u7, e7, hM⟩ := gb_some hM
  refine g_putI C hP hS gl_DeskModel_130 rfl rfl gq_8_1 d_Model_clear_7 (fun H locs hP hS => ?_)
  rw [Option.some.inj e7] at hP
  refine lv_aload_n hx hb d_Model_clear_10 rfl (lv_at hl 0 rfl) ?_
  refine lv_iconst (v := (0 : Int32)) hx hb d_Model_clear_11 (by decide) ?_
  obtain ⟨u12, e12, hM⟩ := gb_some hM
  refine g_putI C hP hS gl_DeskModel_137 rfl rfl gq_8_2 d_Model_clear_12 (fun H locs hP hS => ?_)
  rw [Option.some.inj e12] at hP
  refine lv_aload_n hx hb d_Model_clear_15 rfl (lv_at hl 0 rfl) ?_
  refine lv_iconst (v := (-1 : Int32)) hx hb d_Model_clear_16 (by decide) ?_
  obtain ⟨u17, e17, hM⟩ := gb_some hM
  refine g_putI C hP hS gl_DeskModel_14 rfl rfl gq_8_3 d_Model_clear_17 (fun H locs hP hS => ?_)
  rw [Option.some.inj e17] at hP
  refine lv_aload_n hx hb d_Model_clear_20 rfl (lv_at hl 0 rfl) ?_
  refine lv_iconst (v := (0 : Int32)) hx hb d_Model_clear_21 (by decide) ?_
  obtain ⟨u22, e22, hM⟩ := gb_some hM
  refine g_putI C hP hS gl_DeskModel_157 rfl rfl gq_8_7 d_Model_clear_22 (fun H locs hP hS => ?_)
  rw [Option.some.inj e22] at hP
  refine lv_aload_n hx hb d_Model_clear_25 rfl (lv_at hl 0 rfl) ?_
  refine lv_iconst (v := (0 : Int32)) hx hb d_Model_clear_26 (by decide) ?_
  obtain ⟨u27, e27, hM⟩ := gb_some hM
  refine g_putI C hP hS gl_DeskModel_164 rfl rfl gq_8_10 d_Model_clear_27 (fun H locs hP hS => ?_)
  rw [Option.some.inj e27] at hP
  refine lv_aload_n hx hb d_Model_clear_30 rfl (lv_at hl 0 rfl) ?_
  refine lv_iconst (v := (0 : Int32)) hx hb d_Model_clear_31 (by decide) ?_
  obtain ⟨u32, e32, hM⟩ := gb_some hM
  refine g_putI C hP hS gl_DeskModel_184 rfl rfl gq_8_11 d_Model_clear_32 (fun H locs hP hS => ?_)
  rw [Option.some.inj e32] at hP
  refine lv_aload_n hx hb d_Model_clear_35 rfl (lv_at hl 0 rfl) ?_
  refine lv_iconst (v := (0 : Int32)) hx hb d_Model_clear_36 (by decide) ?_
  obtain ⟨u37, e37, hM⟩ := gb_some hM
  refine g_putI C hP hS gl_DeskModel_197 rfl rfl gq_8_18 d_Model_clear_37 (fun H locs hP hS => ?_)
  rw [Option.some.inj e37] at hP
  refine lv_aload_n hx hb d_Model_clear_40 rfl (lv_at hl 0 rfl) ?_
  refine lv_iconst (v := (0 : Int32)) hx hb d_Model_clear_41 (by decide) ?_
  obtain ⟨u42, e42, hM⟩ := gb_some hM
  refine g_putI C hP hS gl_DeskModel_207 rfl rfl gq_8_19 d_Model_clear_42 (fun H locs hP hS => ?_)
  rw [Option.some.inj e42] at hP
  refine lv_aload_n hx hb d_Model_clear_45 rfl (lv_at hl 0 rfl) ?_
  refine lv_iconst (v := (0 : Int32)) hx hb d_Model_clear_46 (by decide) ?_
  obtain ⟨u47, e47, hM⟩ := gb_some hM
  refine g_putI C hP hS gl_DeskModel_230 rfl rfl gq_8_21 d_Model_clear_47 (fun H locs hP hS => ?_)
  rw [Option.some.inj e47] at hP
  refine lv_aload_n hx hb d_Model_clear_50 rfl (lv_at hl 0 rfl) ?_
  refine lv_iconst (v := (0 : Int32)) hx hb d_Model_clear_51 (by decide) ?_
  obtain ⟨u52, e52, hM⟩ := gb_some hM
  refine g_putI C hP hS gl_DeskModel_246 rfl rfl gq_8_36 d_Model_clear_52 (fun H locs hP hS => ?_)
  rw [Option.some.inj e52] at hP
  refine lv_aload_n hx hb d_Model_clear_55 rfl (lv_at hl 0 rfl) ?_
  refine lv_iconst (v := (0 : Int32)) hx hb d_Model_clear_56 (by decide) ?_
  obtain ⟨u57, e57, hM⟩ := gb_some hM
  refine g_putI C hP hS gl_DeskModel_297 rfl rfl gq_8_39 d_Model_clear_57 (fun H locs hP hS => ?_)
  rw [Option.some.inj e57] at hP
  refine lv_aload_n hx hb d_Model_clear_60 rfl (lv_at hl 0 rfl) ?_
  refine lv_iconst (v := (0 : Int32)) hx hb d_Model_clear_61 (by decide) ?_
  obtain ⟨u62, e62, hM⟩ := gb_some hM
  refine g_putZ C hP hS gl_DeskModel_200 rfl rfl gq_8_17 rfl d_Model_clear_62 (fun H locs hP hS => ?_)
  rw [Option.some.inj e62] at hP
  refine lv_iconst (v := (0 : Int32)) hx hb d_Model_clear_65 (by decide) ?_
  refine lv_istore_n (lv' := [(1, .int (0 : Int32)), (0, .ref (ρ 42))]) hx hb d_Model_clear_66 rfl hl (by decide) rfl (fun ls hl => ?_)
  obtain ⟨y67, hL67, hM⟩ := gb_some hM
  refine t_Model_clear_L67 C hL67 (fun y67_0 hy => ?_) ls H locs (lv_sub hl [1, 0] rfl) hP hS
  · subst hy
    intro ls H locs hl hP hS
    refine lv_iconst (v := (0 : Int32)) hx hb d_Model_clear_107 (by decide) ?_
    refine lv_istore_n (lv' := [(1, .int (0 : Int32)), (0, .ref (ρ 42))]) hx hb d_Model_clear_108 rfl hl (by decide) rfl (fun ls hl => ?_)
    obtain ⟨y109, hL109, hM⟩ := gb_some hM
    refine t_Model_clear_L109 C hL109 (fun y109_0 hy => ?_) ls H locs (lv_sub hl [1, 0] rfl) hP hS
    · subst hy
      intro ls H locs hl hP hS
      obtain rfl := Option.some.inj hM
      exact hR _ ls H locs d_Model_clear_129 hP hS
theorem c_Model_clear {l : Launch} {cy : Nat → ClassId} {D : va_G} {ρ : Nat → Nat} {A : Nat → Prop} (hD : gD ρ A) {u : gSt} {z : gSt} (hM : M_Model_clear u = some z) : gCtV l y_Model_clear prog_13_method_66_code 2 none 0 0 cy D ρ A [.ref (ρ 42)] u z :=
  g_met (by decide) hD (Nat.le_of_ble_eq_true rfl) (fun p e s m below meth c ls X hl hP => t_Model_clear X hM (fun pc ls H locs hd hP hS => g_vret X hP hS hd) ls _ [] hl hP va_S.rf)
end
