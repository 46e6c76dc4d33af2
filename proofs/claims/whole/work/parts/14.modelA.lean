/-! printed by wip/whole/gen/gen.py -/
section
variable {p : Program} {l : Launch} {e : Env} {R : Room} {s : State} {m : MethodId} {args : Array Value} {below : List Frame} {meth : Method} {c : Code} {Q : State → Prop} {H0 : Heap} {cells slots : Nat} {cy : Nat → ClassId} {D : va_G} {ρ : Nat → Nat} {A : Nat → Prop}
def y_Model_thrown : MethodName := ⟨"TermDeskModel", "thrown", "()I"⟩
theorem gi_Model_thrown : gMi y_Model_thrown prog_13_method_2_code 1 (some .int) 0 8 := ⟨(gWs_at 1158 (by decide +kernel) (by decide +kernel)), (gWs_at 1156 (by decide +kernel) (by decide +kernel)), (gWs_at 1157 (by decide +kernel) (by decide +kernel)), (gWs_at 125 (by decide +kernel) (by decide +kernel)), ⟨by decide +kernel, by decide +kernel, by decide +kernel⟩, _, _, rfl⟩
theorem gm_Law_64 : gMk "TermDeskLaw" 64 y_Model_thrown := Or.inl (gWs_at 1155 (by decide +kernel) (by decide +kernel))
theorem d_Model_thrown_0 : decode prog_13_method_2_code 0 = .ok (.aload_n 0, 1) := by decide +kernel
theorem d_Model_thrown_1 : decode prog_13_method_2_code 1 = .ok (.getfield 86, 3) := by decide +kernel
theorem d_Model_thrown_4 : decode prog_13_method_2_code 4 = .ok (.ireturn, 1) := by decide +kernel
noncomputable def M_Model_thrown (u : gSt) : Option ((Int32 × gSt)) :=
  some (u.1 42 41, u)
set_option maxHeartbeats 4000000 in
set_option maxRecDepth 100000 in
theorem t_Model_thrown (C : gX "TermDeskModel" prog_13_method_2_code 1 (some .int) 0 0 R cells slots cy D ρ A p s m args meth c) {u : gSt} {z : (Int32 × gSt)} (hM : M_Model_thrown u = some z) (hR : gRtI p l e R s m args below meth c Q H0 cells slots cy D ρ A prog_13_method_2_code z.1 z.2) : gAt p l e R s m args below meth c Q H0 cells slots cy D ρ A 1 0 [(0, .ref (ρ 42))] [] u := by
  intro ls H locs hl hP hS
  have hx := C.1
  have hb := C.2.1
  unfold M_Model_thrown at hM
  refine lv_aload_n hx hb d_Model_thrown_0 rfl (lv_at hl 0 rfl) ?_
  refine g_getI C hP gl_DeskModel_86 rfl rfl d_Model_thrown_1 ?_
  obtain rfl := Option.some.inj hM
  exact hR _ ls H locs d_Model_thrown_4 hP hS
theorem c_Model_thrown {l : Launch} {cy : Nat → ClassId} {D : va_G} {ρ : Nat → Nat} {A : Nat → Prop} (hD : gD ρ A) {u : gSt} {z : (Int32 × gSt)} (hM : M_Model_thrown u = some z) : gCtI l y_Model_thrown prog_13_method_2_code 1 (some .int) 0 0 cy D ρ A [.ref (ρ 42)] u z.1 z.2 :=
  g_met (by decide) hD (Nat.le_of_ble_eq_true rfl) (fun p e s m below meth c ls X hl hP => t_Model_thrown X hM (fun pc ls H locs hd hP hS => g_iret X hP hS hd) ls _ [] hl hP va_S.rf)
end
section
variable {p : Program} {l : Launch} {e : Env} {R : Room} {s : State} {m : MethodId} {args : Array Value} {below : List Frame} {meth : Method} {c : Code} {Q : State → Prop} {H0 : Heap} {cells slots : Nat} {cy : Nat → ClassId} {D : va_G} {ρ : Nat → Nat} {A : Nat → Prop}
def y_Model_fails : MethodName := ⟨"TermDeskModel", "fails", "(ZI)Z"⟩
theorem gi_Model_fails : gMi y_Model_fails prog_13_method_3_code 3 (some .boolean) 2 8 := ⟨(gWs_at 1166 (by decide +kernel) (by decide +kernel)), (gWs_at 1165 (by decide +kernel) (by decide +kernel)), (gWs_at 67 (by decide +kernel) (by decide +kernel)), (gWs_at 125 (by decide +kernel) (by decide +kernel)), ⟨by decide +kernel, by decide +kernel, by decide +kernel⟩, _, _, rfl⟩
theorem gm_Model_133 : gMk "TermDeskModel" 133 y_Model_fails := Or.inl (gWs_at 1163 (by decide +kernel) (by decide +kernel))
theorem d_Model_fails_0 : decode prog_13_method_3_code 0 = .ok (.aload_n 0, 1) := by decide +kernel
theorem d_Model_fails_1 : decode prog_13_method_3_code 1 = .ok (.iload_n 1, 1) := by decide +kernel
theorem d_Model_fails_2 : decode prog_13_method_3_code 2 = .ok (.ifCond .eq 7, 3) := by decide +kernel
theorem d_Model_fails_5 : decode prog_13_method_3_code 5 = .ok (.iload_n 2, 1) := by decide +kernel
theorem d_Model_fails_6 : decode prog_13_method_3_code 6 = .ok (.goto 4, 3) := by decide +kernel
theorem d_Model_fails_9 : decode prog_13_method_3_code 9 = .ok (.iconst 0, 1) := by decide +kernel
theorem d_Model_fails_10 : decode prog_13_method_3_code 10 = .ok (.putfield 86, 3) := by decide +kernel
theorem d_Model_fails_13 : decode prog_13_method_3_code 13 = .ok (.iload_n 1, 1) := by decide +kernel
theorem d_Model_fails_14 : decode prog_13_method_3_code 14 = .ok (.ireturn, 1) := by decide +kernel
noncomputable def M_Model_fails_b10 (x1 : Int32) (s0 : Int32) (u : gSt) : Option ((Int32 × gSt)) :=
  (some (gsF u 42 41 s0)).bind fun u10 =>
  gc (gZ x1) <| some (x1, u10)
set_option maxHeartbeats 4000000 in
set_option maxRecDepth 100000 in
theorem t_Model_fails_b10 (C : gX "TermDeskModel" prog_13_method_3_code 3 (some .boolean) 0 0 R cells slots cy D ρ A p s m args meth c) {x1 : Int32} {s0 : Int32} {u : gSt} {z : (Int32 × gSt)} (hM : M_Model_fails_b10 x1 s0 u = some z) (hR : gRtZ p l e R s m args below meth c Q H0 cells slots cy D ρ A prog_13_method_3_code z.1 z.2) : gAt p l e R s m args below meth c Q H0 cells slots cy D ρ A 3 10 [(1, .int x1)] [.int s0, .ref (ρ 42)] u := by
  intro ls H locs hl hP hS
  have hx := C.1
  have hb := C.2.1
  unfold M_Model_fails_b10 at hM
  obtain ⟨u10, e10, hM⟩ := gb_some hM
  refine g_putI C hP hS gl_DeskModel_86 rfl rfl gq_8_41 d_Model_fails_10 (fun H locs hP hS => ?_)
  rw [Option.some.inj e10] at hP
  refine lv_iload_n hx hb d_Model_fails_13 rfl (lv_at hl 0 rfl) ?_
  obtain ⟨hz14, hM⟩ := gc_some hM
  obtain rfl := Option.some.inj hM
  exact hR _ ls H locs hz14 d_Model_fails_14 hP hS
noncomputable def M_Model_fails (x1 : Int32) (x2 : Int32) (u : gSt) : Option ((Int32 × gSt)) :=
  if x1 = (0 : Int32) then
    (M_Model_fails_b10 x1 (0 : Int32) u)
  else
    (M_Model_fails_b10 x1 x2 u)
set_option maxHeartbeats 4000000 in
set_option maxRecDepth 100000 in
theorem t_Model_fails (C : gX "TermDeskModel" prog_13_method_3_code 3 (some .boolean) 0 0 R cells slots cy D ρ A p s m args meth c) {x1 : Int32} {x2 : Int32} {u : gSt} {z : (Int32 × gSt)} (hM : M_Model_fails x1 x2 u = some z) (hR : gRtZ p l e R s m args below meth c Q H0 cells slots cy D ρ A prog_13_method_3_code z.1 z.2) : gAt p l e R s m args below meth c Q H0 cells slots cy D ρ A 3 0 [(0, .ref (ρ 42)), (1, .int x1), (2, .int x2)] [] u := by
  intro ls H locs hl hP hS
  have hx := C.1
  have hb := C.2.1
  unfold M_Model_fails at hM
  refine lv_aload_n hx hb d_Model_fails_0 rfl (lv_at hl 0 rfl) ?_
  refine lv_iload_n hx hb d_Model_fails_1 rfl (lv_at hl 1 rfl) ?_
  refine lv_if_eq (tgt := 9) hx hb d_Model_fails_2 (by decide) (fun hc2 => ?_) (fun hc2 => ?_)
  · replace hM := gi_t hc2 hM
    refine lv_iconst (v := (0 : Int32)) hx hb d_Model_fails_9 (by decide) ?_
    exact t_Model_fails_b10 C hM hR ls H locs (lv_sub hl [1] rfl) hP hS
  · replace hM := gi_f hc2 hM
    refine lv_iload_n hx hb d_Model_fails_5 rfl (lv_at hl 2 rfl) ?_
    refine lv_goto (tgt := 10) hx hb d_Model_fails_6 (by decide) ?_
    exact t_Model_fails_b10 C hM hR ls H locs (lv_sub hl [1] rfl) hP hS
theorem c_Model_fails {l : Launch} {cy : Nat → ClassId} {D : va_G} {ρ : Nat → Nat} {A : Nat → Prop} (hD : gD ρ A) {x1 : Int32} {x2 : Int32} {u : gSt} {z : (Int32 × gSt)} (hM : M_Model_fails x1 x2 u = some z) : gCtI l y_Model_fails prog_13_method_3_code 3 (some .boolean) 0 0 cy D ρ A [.ref (ρ 42), .int x1, .int x2] u z.1 z.2 :=
  g_met (by decide) hD (Nat.le_of_ble_eq_true rfl) (fun p e s m below meth c ls X hl hP => t_Model_fails X hM (fun pc ls H locs hz hd hP hS => g_zret X hP hS hz hd) ls _ [] hl hP va_S.rf)
end
section
variable {p : Program} {l : Launch} {e : Env} {R : Room} {s : State} {m : MethodId} {args : Array Value} {below : List Frame} {meth : Method} {c : Code} {Q : State → Prop} {H0 : Heap} {cells slots : Nat} {cy : Nat → ClassId} {D : va_G} {ρ : Nat → Nat} {A : Nat → Prop}
def y_Model_trimNumber : MethodName := ⟨"TermDeskModel", "trimNumber", "(I)V"⟩
theorem gi_Model_trimNumber : gMi y_Model_trimNumber prog_13_method_4_code 2 none 1 8 := ⟨(gWs_at 1322 (by decide +kernel) (by decide +kernel)), (gWs_at 1321 (by decide +kernel) (by decide +kernel)), (gWs_at 96 (by decide +kernel) (by decide +kernel)), (gWs_at 125 (by decide +kernel) (by decide +kernel)), ⟨by decide +kernel, by decide +kernel, by decide +kernel⟩, _, _, rfl⟩
theorem gm_Model_95 : gMk "TermDeskModel" 95 y_Model_trimNumber := Or.inl (gWs_at 1319 (by decide +kernel) (by decide +kernel))
theorem d_Model_trimNumber_0 : decode prog_13_method_4_code 0 = .ok (.aload_n 0, 1) := by decide +kernel
theorem d_Model_trimNumber_1 : decode prog_13_method_4_code 1 = .ok (.getfield 56, 3) := by decide +kernel
theorem d_Model_trimNumber_4 : decode prog_13_method_4_code 4 = .ok (.iload_n 1, 1) := by decide +kernel
theorem d_Model_trimNumber_5 : decode prog_13_method_4_code 5 = .ok (.iaload, 1) := by decide +kernel
theorem d_Model_trimNumber_6 : decode prog_13_method_4_code 6 = .ok (.ifCond .le 37, 3) := by decide +kernel
theorem d_Model_trimNumber_9 : decode prog_13_method_4_code 9 = .ok (.aload_n 0, 1) := by decide +kernel
theorem d_Model_trimNumber_10 : decode prog_13_method_4_code 10 = .ok (.getfield 53, 3) := by decide +kernel
theorem d_Model_trimNumber_13 : decode prog_13_method_4_code 13 = .ok (.bipush 48, 2) := by decide +kernel
theorem d_Model_trimNumber_15 : decode prog_13_method_4_code 15 = .ok (.iload_n 1, 1) := by decide +kernel
theorem d_Model_trimNumber_16 : decode prog_13_method_4_code 16 = .ok (.imul, 1) := by decide +kernel
theorem d_Model_trimNumber_17 : decode prog_13_method_4_code 17 = .ok (.aload_n 0, 1) := by decide +kernel
theorem d_Model_trimNumber_18 : decode prog_13_method_4_code 18 = .ok (.getfield 56, 3) := by decide +kernel
theorem d_Model_trimNumber_21 : decode prog_13_method_4_code 21 = .ok (.iload_n 1, 1) := by decide +kernel
theorem d_Model_trimNumber_22 : decode prog_13_method_4_code 22 = .ok (.iaload, 1) := by decide +kernel
theorem d_Model_trimNumber_23 : decode prog_13_method_4_code 23 = .ok (.iadd, 1) := by decide +kernel
theorem d_Model_trimNumber_24 : decode prog_13_method_4_code 24 = .ok (.iconst 1, 1) := by decide +kernel
theorem d_Model_trimNumber_25 : decode prog_13_method_4_code 25 = .ok (.isub, 1) := by decide +kernel
theorem d_Model_trimNumber_26 : decode prog_13_method_4_code 26 = .ok (.iaload, 1) := by decide +kernel
theorem d_Model_trimNumber_27 : decode prog_13_method_4_code 27 = .ok (.ifCond .ne 16, 3) := by decide +kernel
theorem d_Model_trimNumber_30 : decode prog_13_method_4_code 30 = .ok (.aload_n 0, 1) := by decide +kernel
theorem d_Model_trimNumber_31 : decode prog_13_method_4_code 31 = .ok (.getfield 56, 3) := by decide +kernel
theorem d_Model_trimNumber_34 : decode prog_13_method_4_code 34 = .ok (.iload_n 1, 1) := by decide +kernel
theorem d_Model_trimNumber_35 : decode prog_13_method_4_code 35 = .ok (.dup2, 1) := by decide +kernel
theorem d_Model_trimNumber_36 : decode prog_13_method_4_code 36 = .ok (.iaload, 1) := by decide +kernel
theorem d_Model_trimNumber_37 : decode prog_13_method_4_code 37 = .ok (.iconst 1, 1) := by decide +kernel
theorem d_Model_trimNumber_38 : decode prog_13_method_4_code 38 = .ok (.isub, 1) := by decide +kernel
theorem d_Model_trimNumber_39 : decode prog_13_method_4_code 39 = .ok (.iastore, 1) := by decide +kernel
theorem d_Model_trimNumber_40 : decode prog_13_method_4_code 40 = .ok (.goto (-40), 3) := by decide +kernel
theorem d_Model_trimNumber_43 : decode prog_13_method_4_code 43 = .ok (.return_, 1) := by decide +kernel
noncomputable def M_Model_trimNumber_b0 (x1 : Int32) (u : gSt) : Option ((Int32 × gSt) ⊕ ((gSt))) :=
  gc (gIn x1 (gLen 56)) <| if (u.2.2.1 56 (gIx x1)) ≤ (0 : Int32) then
    (some (.inr u))
  else
    (gc (gIn x1 (gLen 56)) <| gc (gIn ((((48 : Int32) * x1) + (u.2.2.1 56 (gIx x1))) - (1 : Int32)) (gLen 55)) <| if (u.2.2.1 55 (gIx ((((48 : Int32) * x1) + (u.2.2.1 56 (gIx x1))) - (1 : Int32)))) = (0 : Int32) then
      (gc (gIn x1 (gLen 56)) <| gc (gIn x1 (gLen 56)) <| (some (gsA u 56 (gIx x1) ((u.2.2.1 56 (gIx x1)) - (1 : Int32)))).bind fun u39 =>
      some (.inl (x1, u39)))
    else
      (some (.inr u)))
set_option maxHeartbeats 4000000 in
set_option maxRecDepth 100000 in
theorem t_Model_trimNumber_b0 (C : gX "TermDeskModel" prog_13_method_4_code 2 none 0 0 R cells slots cy D ρ A p s m args meth c) {x1 : Int32} {u : gSt} {z : (Int32 × gSt) ⊕ ((gSt))} (hM : M_Model_trimNumber_b0 x1 u = some z) (hN : ∀ x1' u', z = .inl (x1', u') → gAt p l e R s m args below meth c Q H0 cells slots cy D ρ A 2 0 [(0, .ref (ρ 42)), (1, .int (x1'))] [] (u')) (hE0 : ∀ u', z = .inr u' → gAt p l e R s m args below meth c Q H0 cells slots cy D ρ A 2 43 [] [] (u')) : gAt p l e R s m args below meth c Q H0 cells slots cy D ρ A 2 0 [(0, .ref (ρ 42)), (1, .int x1)] [] u := by
  intro ls H locs hl hP hS
  have hx := C.1
  have hb := C.2.1
  unfold M_Model_trimNumber_b0 at hM
  refine lv_aload_n hx hb d_Model_trimNumber_0 rfl (lv_at hl 0 rfl) ?_
  refine g_getR (b := 56) C hP gl_DeskModel_56 rfl rfl rfl d_Model_trimNumber_1 ?_
  refine lv_iload_n hx hb d_Model_trimNumber_4 rfl (lv_at hl 1 rfl) ?_
  obtain ⟨hi5, hM⟩ := gc_some hM
  refine g_iald C hP rfl hi5 d_Model_trimNumber_5 ?_
  refine lv_if_le (tgt := 43) hx hb d_Model_trimNumber_6 (by decide) (fun hc6 => ?_) (fun hc6 => ?_)
  · replace hM := gi_t hc6 hM
    exact hE0 _ (Option.some.inj hM).symm ls H locs (lv_sub hl [] rfl) hP hS
  · replace hM := gi_f hc6 hM
    refine lv_aload_n hx hb d_Model_trimNumber_9 rfl (lv_at hl 0 rfl) ?_
    refine g_getR (b := 55) C hP gl_DeskModel_53 rfl rfl rfl d_Model_trimNumber_10 ?_
    refine lv_bipush (v := (48 : Int32)) hx hb d_Model_trimNumber_13 (by decide) ?_
    refine lv_iload_n hx hb d_Model_trimNumber_15 rfl (lv_at hl 1 rfl) ?_
    refine lv_imul hx hb d_Model_trimNumber_16 ?_
    refine lv_aload_n hx hb d_Model_trimNumber_17 rfl (lv_at hl 0 rfl) ?_
    refine g_getR (b := 56) C hP gl_DeskModel_56 rfl rfl rfl d_Model_trimNumber_18 ?_
    refine lv_iload_n hx hb d_Model_trimNumber_21 rfl (lv_at hl 1 rfl) ?_
    obtain ⟨hi22, hM⟩ := gc_some hM
    refine g_iald C hP rfl hi22 d_Model_trimNumber_22 ?_
    refine lv_iadd hx hb d_Model_trimNumber_23 ?_
    refine lv_iconst (v := (1 : Int32)) hx hb d_Model_trimNumber_24 (by decide) ?_
    refine lv_isub hx hb d_Model_trimNumber_25 ?_
    obtain ⟨hi26, hM⟩ := gc_some hM
    refine g_iald C hP rfl hi26 d_Model_trimNumber_26 ?_
    refine lv_if_ne (tgt := 43) hx hb d_Model_trimNumber_27 (by decide) (fun hc27 => ?_) (fun hc27 => ?_)
    · replace hM := gi_f hc27 hM
      exact hE0 _ (Option.some.inj hM).symm ls H locs (lv_sub hl [] rfl) hP hS
    · replace hM := gi_t hc27 hM
      refine lv_aload_n hx hb d_Model_trimNumber_30 rfl (lv_at hl 0 rfl) ?_
      refine g_getR (b := 56) C hP gl_DeskModel_56 rfl rfl rfl d_Model_trimNumber_31 ?_
      refine lv_iload_n hx hb d_Model_trimNumber_34 rfl (lv_at hl 1 rfl) ?_
      refine lv_dup2_11 hx hb d_Model_trimNumber_35 rfl rfl ?_
      obtain ⟨hi36, hM⟩ := gc_some hM
      refine g_iald C hP rfl hi36 d_Model_trimNumber_36 ?_
      refine lv_iconst (v := (1 : Int32)) hx hb d_Model_trimNumber_37 (by decide) ?_
      refine lv_isub hx hb d_Model_trimNumber_38 ?_
      obtain ⟨hi39, hM⟩ := gc_some hM
      obtain ⟨u39, e39, hM⟩ := gb_some hM
      refine g_iast C hP hS rfl hi39 d_Model_trimNumber_39 (fun H locs hP hS => ?_)
      rw [Option.some.inj e39] at hP
      refine lv_goto (tgt := 0) hx hb d_Model_trimNumber_40 (by decide) ?_
      exact hN _ _ (Option.some.inj hM).symm ls H locs (lv_sub hl [0, 1] rfl) hP hS
noncomputable def M_Model_trimNumber_L0 : (Int32 × gSt) → Option ((Int32 × gSt) ⊕ ((gSt))) := fun x => M_Model_trimNumber_b0 x.1 x.2
theorem t_Model_trimNumber_L0 (C : gX "TermDeskModel" prog_13_method_4_code 2 none 0 0 R cells slots cy D ρ A p s m args meth c) {x1 : Int32} {u : gSt} {yy : (gSt)} (hL : gLp M_Model_trimNumber_L0 (x1, u) = some yy) (hE0 : (∀ y', yy = y' → gAt p l e R s m args below meth c Q H0 cells slots cy D ρ A 2 43 [] [] (y'))) : gAt p l e R s m args below meth c Q H0 cells slots cy D ρ A 2 0 [(0, .ref (ρ 42)), (1, .int x1)] [] u :=
  g_loop (f := M_Model_trimNumber_L0) (P := fun x => gAt p l e R s m args below meth c Q H0 cells slots cy D ρ A 2 0 [(0, .ref (ρ 42)), (1, .int x.1)] [] x.2) (E := fun yy => (∀ y', yy = y' → gAt p l e R s m args below meth c Q H0 cells slots cy D ρ A 2 43 [] [] (y'))) (fun x z hf hN hE => t_Model_trimNumber_b0 C hf (fun x1' u' h => hN (x1', u') h) (fun u' h => (hE _ h) u' rfl)) hL hE0
noncomputable def M_Model_trimNumber (x1 : Int32) (u : gSt) : Option (gSt) :=
  (gLp M_Model_trimNumber_L0 (x1, u)).bind fun y0 =>
  some y0
set_option maxHeartbeats 4000000 in
set_option maxRecDepth 100000 in
theorem t_Model_trimNumber (C : gX "TermDeskModel" prog_13_method_4_code 2 none 0 0 R cells slots cy D ρ A p s m args meth c) {x1 : Int32} {u : gSt} {z : gSt} (hM : M_Model_trimNumber x1 u = some z) (hR : gRtV p l e R s m args below meth c Q H0 cells slots cy D ρ A prog_13_method_4_code z) : gAt p l e R s m args below meth c Q H0 cells slots cy D ρ A 2 0 [(0, .ref (ρ 42)), (1, .int x1)] [] u := by
  intro ls H locs hl hP hS
  have hx := C.1
  have hb := C.2.1
  unfold M_Model_trimNumber at hM
  obtain ⟨y0, hL0, hM⟩ := gb_some hM
  refine t_Model_trimNumber_L0 C hL0 (fun y0_0 hy => ?_) ls H locs (lv_sub hl [0, 1] rfl) hP hS
  · subst hy
    intro ls H locs hl hP hS
    obtain rfl := Option.some.inj hM
    exact hR _ ls H locs d_Model_trimNumber_43 hP hS
theorem c_Model_trimNumber {l : Launch} {cy : Nat → ClassId} {D : va_G} {ρ : Nat → Nat} {A : Nat → Prop} (hD : gD ρ A) {x1 : Int32} {u : gSt} {z : gSt} (hM : M_Model_trimNumber x1 u = some z) : gCtV l y_Model_trimNumber prog_13_method_4_code 2 none 0 0 cy D ρ A [.ref (ρ 42), .int x1] u z :=
  g_met (by decide) hD (Nat.le_of_ble_eq_true rfl) (fun p e s m below meth c ls X hl hP => t_Model_trimNumber X hM (fun pc ls H locs hd hP hS => g_vret X hP hS hd) ls _ [] hl hP va_S.rf)
end
section
variable {p : Program} {l : Launch} {e : Env} {R : Room} {s : State} {m : MethodId} {args : Array Value} {below : List Frame} {meth : Method} {c : Code} {Q : State → Prop} {H0 : Heap} {cells slots : Nat} {cy : Nat → ClassId} {D : va_G} {ρ : Nat → Nat} {A : Nat → Prop}
def y_Model_digit : MethodName := ⟨"TermDeskModel", "digit", "(II)I"⟩
theorem gi_Model_digit : gMi y_Model_digit prog_13_method_5_code 3 (some .int) 2 8 := ⟨(gWs_at 1317 (by decide +kernel) (by decide +kernel)), (gWs_at 1316 (by decide +kernel) (by decide +kernel)), (gWs_at 95 (by decide +kernel) (by decide +kernel)), (gWs_at 125 (by decide +kernel) (by decide +kernel)), ⟨by decide +kernel, by decide +kernel, by decide +kernel⟩, _, _, rfl⟩
theorem gm_Model_89 : gMk "TermDeskModel" 89 y_Model_digit := Or.inl (gWs_at 1314 (by decide +kernel) (by decide +kernel))
theorem d_Model_digit_0 : decode prog_13_method_5_code 0 = .ok (.iload_n 2, 1) := by decide +kernel
theorem d_Model_digit_1 : decode prog_13_method_5_code 1 = .ok (.aload_n 0, 1) := by decide +kernel
theorem d_Model_digit_2 : decode prog_13_method_5_code 2 = .ok (.getfield 56, 3) := by decide +kernel
theorem d_Model_digit_5 : decode prog_13_method_5_code 5 = .ok (.iload_n 1, 1) := by decide +kernel
theorem d_Model_digit_6 : decode prog_13_method_5_code 6 = .ok (.iaload, 1) := by decide +kernel
theorem d_Model_digit_7 : decode prog_13_method_5_code 7 = .ok (.if_icmp .ge 17, 3) := by decide +kernel
theorem d_Model_digit_10 : decode prog_13_method_5_code 10 = .ok (.aload_n 0, 1) := by decide +kernel
theorem d_Model_digit_11 : decode prog_13_method_5_code 11 = .ok (.getfield 53, 3) := by decide +kernel
theorem d_Model_digit_14 : decode prog_13_method_5_code 14 = .ok (.bipush 48, 2) := by decide +kernel
theorem d_Model_digit_16 : decode prog_13_method_5_code 16 = .ok (.iload_n 1, 1) := by decide +kernel
theorem d_Model_digit_17 : decode prog_13_method_5_code 17 = .ok (.imul, 1) := by decide +kernel
theorem d_Model_digit_18 : decode prog_13_method_5_code 18 = .ok (.iload_n 2, 1) := by decide +kernel
theorem d_Model_digit_19 : decode prog_13_method_5_code 19 = .ok (.iadd, 1) := by decide +kernel
theorem d_Model_digit_20 : decode prog_13_method_5_code 20 = .ok (.iaload, 1) := by decide +kernel
theorem d_Model_digit_21 : decode prog_13_method_5_code 21 = .ok (.goto 4, 3) := by decide +kernel
theorem d_Model_digit_24 : decode prog_13_method_5_code 24 = .ok (.iconst 0, 1) := by decide +kernel
theorem d_Model_digit_25 : decode prog_13_method_5_code 25 = .ok (.ireturn, 1) := by decide +kernel
noncomputable def M_Model_digit_b25 (s0 : Int32) (u : gSt) : Option ((Int32 × gSt)) :=
  some (s0, u)
set_option maxHeartbeats 4000000 in
set_option maxRecDepth 100000 in
theorem t_Model_digit_b25 (C : gX "TermDeskModel" prog_13_method_5_code 3 (some .int) 0 0 R cells slots cy D ρ A p s m args meth c) {s0 : Int32} {u : gSt} {z : (Int32 × gSt)} (hM : M_Model_digit_b25 s0 u = some z) (hR : gRtI p l e R s m args below meth c Q H0 cells slots cy D ρ A prog_13_method_5_code z.1 z.2) : gAt p l e R s m args below meth c Q H0 cells slots cy D ρ A 3 25 [] [.int s0] u := by
  intro ls H locs hl hP hS
  have hx := C.1
  have hb := C.2.1
  unfold M_Model_digit_b25 at hM
  obtain rfl := Option.some.inj hM
  exact hR _ ls H locs d_Model_digit_25 hP hS
noncomputable def M_Model_digit (x1 : Int32) (x2 : Int32) (u : gSt) : Option ((Int32 × gSt)) :=
  gc (gIn x1 (gLen 56)) <| if (u.2.2.1 56 (gIx x1)) ≤ x2 then
    (M_Model_digit_b25 (0 : Int32) u)
  else
    (gc (gIn (((48 : Int32) * x1) + x2) (gLen 55)) <| M_Model_digit_b25 (u.2.2.1 55 (gIx (((48 : Int32) * x1) + x2))) u)
set_option maxHeartbeats 4000000 in
set_option maxRecDepth 100000 in
theorem t_Model_digit (C : gX "TermDeskModel" prog_13_method_5_code 3 (some .int) 0 0 R cells slots cy D ρ A p s m args meth c) {x1 : Int32} {x2 : Int32} {u : gSt} {z : (Int32 × gSt)} (hM : M_Model_digit x1 x2 u = some z) (hR : gRtI p l e R s m args below meth c Q H0 cells slots cy D ρ A prog_13_method_5_code z.1 z.2) : gAt p l e R s m args below meth c Q H0 cells slots cy D ρ A 3 0 [(0, .ref (ρ 42)), (1, .int x1), (2, .int x2)] [] u := by
  intro ls H locs hl hP hS
  have hx := C.1
  have hb := C.2.1
  unfold M_Model_digit at hM
  refine lv_iload_n hx hb d_Model_digit_0 rfl (lv_at hl 2 rfl) ?_
  refine lv_aload_n hx hb d_Model_digit_1 rfl (lv_at hl 0 rfl) ?_
  refine g_getR (b := 56) C hP gl_DeskModel_56 rfl rfl rfl d_Model_digit_2 ?_
  refine lv_iload_n hx hb d_Model_digit_5 rfl (lv_at hl 1 rfl) ?_
  obtain ⟨hi6, hM⟩ := gc_some hM
  refine g_iald C hP rfl hi6 d_Model_digit_6 ?_
  refine lv_icmp_ge (tgt := 24) hx hb d_Model_digit_7 (by decide) (fun hc7 => ?_) (fun hc7 => ?_)
  · replace hM := gi_t hc7 hM
    refine lv_iconst (v := (0 : Int32)) hx hb d_Model_digit_24 (by decide) ?_
    exact t_Model_digit_b25 C hM hR ls H locs (lv_sub hl [] rfl) hP hS
  · replace hM := gi_f hc7 hM
    refine lv_aload_n hx hb d_Model_digit_10 rfl (lv_at hl 0 rfl) ?_
    refine g_getR (b := 55) C hP gl_DeskModel_53 rfl rfl rfl d_Model_digit_11 ?_
    refine lv_bipush (v := (48 : Int32)) hx hb d_Model_digit_14 (by decide) ?_
    refine lv_iload_n hx hb d_Model_digit_16 rfl (lv_at hl 1 rfl) ?_
    refine lv_imul hx hb d_Model_digit_17 ?_
    refine lv_iload_n hx hb d_Model_digit_18 rfl (lv_at hl 2 rfl) ?_
    refine lv_iadd hx hb d_Model_digit_19 ?_
    obtain ⟨hi20, hM⟩ := gc_some hM
    refine g_iald C hP rfl hi20 d_Model_digit_20 ?_
    refine lv_goto (tgt := 25) hx hb d_Model_digit_21 (by decide) ?_
    exact t_Model_digit_b25 C hM hR ls H locs (lv_sub hl [] rfl) hP hS
theorem c_Model_digit {l : Launch} {cy : Nat → ClassId} {D : va_G} {ρ : Nat → Nat} {A : Nat → Prop} (hD : gD ρ A) {x1 : Int32} {x2 : Int32} {u : gSt} {z : (Int32 × gSt)} (hM : M_Model_digit x1 x2 u = some z) : gCtI l y_Model_digit prog_13_method_5_code 3 (some .int) 0 0 cy D ρ A [.ref (ρ 42), .int x1, .int x2] u z.1 z.2 :=
  g_met (by decide) hD (Nat.le_of_ble_eq_true rfl) (fun p e s m below meth c ls X hl hP => t_Model_digit X hM (fun pc ls H locs hd hP hS => g_iret X hP hS hd) ls _ [] hl hP va_S.rf)
end
section
variable {p : Program} {l : Launch} {e : Env} {R : Room} {s : State} {m : MethodId} {args : Array Value} {below : List Frame} {meth : Method} {c : Code} {Q : State → Prop} {H0 : Heap} {cells slots : Nat} {cy : Nat → ClassId} {D : va_G} {ρ : Nat → Nat} {A : Nat → Prop}
def y_Model_set : MethodName := ⟨"TermDeskModel", "set", "(II)V"⟩
theorem gi_Model_set : gMi y_Model_set prog_13_method_6_code 4 none 2 8 := ⟨(gWs_at 1309 (by decide +kernel) (by decide +kernel)), (gWs_at 1308 (by decide +kernel) (by decide +kernel)), (gWs_at 93 (by decide +kernel) (by decide +kernel)), (gWs_at 125 (by decide +kernel) (by decide +kernel)), ⟨by decide +kernel, by decide +kernel, by decide +kernel⟩, _, _, rfl⟩
theorem gm_Model_116 : gMk "TermDeskModel" 116 y_Model_set := Or.inl (gWs_at 1306 (by decide +kernel) (by decide +kernel))
theorem d_Model_set_0 : decode prog_13_method_6_code 0 = .ok (.aload_n 0, 1) := by decide +kernel
theorem d_Model_set_1 : decode prog_13_method_6_code 1 = .ok (.getfield 56, 3) := by decide +kernel
theorem d_Model_set_4 : decode prog_13_method_6_code 4 = .ok (.iload_n 1, 1) := by decide +kernel
theorem d_Model_set_5 : decode prog_13_method_6_code 5 = .ok (.iconst 0, 1) := by decide +kernel
theorem d_Model_set_6 : decode prog_13_method_6_code 6 = .ok (.iastore, 1) := by decide +kernel
theorem d_Model_set_7 : decode prog_13_method_6_code 7 = .ok (.iload_n 2, 1) := by decide +kernel
theorem d_Model_set_8 : decode prog_13_method_6_code 8 = .ok (.istore_n 3, 1) := by decide +kernel
theorem d_Model_set_9 : decode prog_13_method_6_code 9 = .ok (.iload_n 3, 1) := by decide +kernel
theorem d_Model_set_10 : decode prog_13_method_6_code 10 = .ok (.ifCond .le 42, 3) := by decide +kernel
theorem d_Model_set_13 : decode prog_13_method_6_code 13 = .ok (.aload_n 0, 1) := by decide +kernel
theorem d_Model_set_14 : decode prog_13_method_6_code 14 = .ok (.getfield 53, 3) := by decide +kernel
theorem d_Model_set_17 : decode prog_13_method_6_code 17 = .ok (.bipush 48, 2) := by decide +kernel
theorem d_Model_set_19 : decode prog_13_method_6_code 19 = .ok (.iload_n 1, 1) := by decide +kernel
theorem d_Model_set_20 : decode prog_13_method_6_code 20 = .ok (.imul, 1) := by decide +kernel
theorem d_Model_set_21 : decode prog_13_method_6_code 21 = .ok (.aload_n 0, 1) := by decide +kernel
theorem d_Model_set_22 : decode prog_13_method_6_code 22 = .ok (.getfield 56, 3) := by decide +kernel
theorem d_Model_set_25 : decode prog_13_method_6_code 25 = .ok (.iload_n 1, 1) := by decide +kernel
theorem d_Model_set_26 : decode prog_13_method_6_code 26 = .ok (.iaload, 1) := by decide +kernel
theorem d_Model_set_27 : decode prog_13_method_6_code 27 = .ok (.iadd, 1) := by decide +kernel
theorem d_Model_set_28 : decode prog_13_method_6_code 28 = .ok (.iload_n 3, 1) := by decide +kernel
theorem d_Model_set_29 : decode prog_13_method_6_code 29 = .ok (.sipush 32767, 3) := by decide +kernel
theorem d_Model_set_32 : decode prog_13_method_6_code 32 = .ok (.iand, 1) := by decide +kernel
theorem d_Model_set_33 : decode prog_13_method_6_code 33 = .ok (.iastore, 1) := by decide +kernel
theorem d_Model_set_34 : decode prog_13_method_6_code 34 = .ok (.aload_n 0, 1) := by decide +kernel
theorem d_Model_set_35 : decode prog_13_method_6_code 35 = .ok (.getfield 56, 3) := by decide +kernel
theorem d_Model_set_38 : decode prog_13_method_6_code 38 = .ok (.iload_n 1, 1) := by decide +kernel
theorem d_Model_set_39 : decode prog_13_method_6_code 39 = .ok (.dup2, 1) := by decide +kernel
theorem d_Model_set_40 : decode prog_13_method_6_code 40 = .ok (.iaload, 1) := by decide +kernel
theorem d_Model_set_41 : decode prog_13_method_6_code 41 = .ok (.iconst 1, 1) := by decide +kernel
theorem d_Model_set_42 : decode prog_13_method_6_code 42 = .ok (.iadd, 1) := by decide +kernel
theorem d_Model_set_43 : decode prog_13_method_6_code 43 = .ok (.iastore, 1) := by decide +kernel
theorem d_Model_set_44 : decode prog_13_method_6_code 44 = .ok (.iload_n 3, 1) := by decide +kernel
theorem d_Model_set_45 : decode prog_13_method_6_code 45 = .ok (.bipush 15, 2) := by decide +kernel
theorem d_Model_set_47 : decode prog_13_method_6_code 47 = .ok (.ishr, 1) := by decide +kernel
theorem d_Model_set_48 : decode prog_13_method_6_code 48 = .ok (.istore_n 3, 1) := by decide +kernel
theorem d_Model_set_49 : decode prog_13_method_6_code 49 = .ok (.goto (-40), 3) := by decide +kernel
theorem d_Model_set_52 : decode prog_13_method_6_code 52 = .ok (.return_, 1) := by decide +kernel
noncomputable def M_Model_set_b9 (x1 : Int32) (x3 : Int32) (u : gSt) : Option ((Int32 × Int32 × gSt) ⊕ ((gSt))) :=
  if x3 ≤ (0 : Int32) then
    (some (.inr u))
  else
    (gc (gIn x1 (gLen 56)) <| gc (gIn (((48 : Int32) * x1) + (u.2.2.1 56 (gIx x1))) (gLen 55)) <| (some (gsA u 55 (gIx (((48 : Int32) * x1) + (u.2.2.1 56 (gIx x1)))) (x3 &&& (32767 : Int32)))).bind fun u33 =>
    gc (gIn x1 (gLen 56)) <| gc (gIn x1 (gLen 56)) <| (some (gsA u33 56 (gIx x1) ((u33.2.2.1 56 (gIx x1)) + (1 : Int32)))).bind fun u43 =>
    some (.inl (x1, x3 >>> ((15 : Int32) &&& (31 : Int32)), u43)))
set_option maxHeartbeats 4000000 in
set_option maxRecDepth 100000 in
theorem t_Model_set_b9 (C : gX "TermDeskModel" prog_13_method_6_code 4 none 0 0 R cells slots cy D ρ A p s m args meth c) {x1 : Int32} {x3 : Int32} {u : gSt} {z : (Int32 × Int32 × gSt) ⊕ ((gSt))} (hM : M_Model_set_b9 x1 x3 u = some z) (hN : ∀ x1' x3' u', z = .inl (x1', x3', u') → gAt p l e R s m args below meth c Q H0 cells slots cy D ρ A 4 9 [(0, .ref (ρ 42)), (1, .int (x1')), (3, .int (x3'))] [] (u')) (hE0 : ∀ u', z = .inr u' → gAt p l e R s m args below meth c Q H0 cells slots cy D ρ A 4 52 [] [] (u')) : gAt p l e R s m args below meth c Q H0 cells slots cy D ρ A 4 9 [(0, .ref (ρ 42)), (1, .int x1), (3, .int x3)] [] u := by
  intro ls H locs hl hP hS
  have hx := C.1
  have hb := C.2.1
  unfold M_Model_set_b9 at hM
  refine lv_iload_n hx hb d_Model_set_9 rfl (lv_at hl 2 rfl) ?_
  refine lv_if_le (tgt := 52) hx hb d_Model_set_10 (by decide) (fun hc10 => ?_) (fun hc10 => ?_)
  · replace hM := gi_t hc10 hM
    exact hE0 _ (Option.some.inj hM).symm ls H locs (lv_sub hl [] rfl) hP hS
  · replace hM := gi_f hc10 hM
    refine lv_aload_n hx hb d_Model_set_13 rfl (lv_at hl 0 rfl) ?_
    refine g_getR (b := 55) C hP gl_DeskModel_53 rfl rfl rfl d_Model_set_14 ?_
    refine lv_bipush (v := (48 : Int32)) hx hb d_Model_set_17 (by decide) ?_
    refine lv_iload_n hx hb d_Model_set_19 rfl (lv_at hl 1 rfl) ?_
    refine lv_imul hx hb d_Model_set_20 ?_
    refine lv_aload_n hx hb d_Model_set_21 rfl (lv_at hl 0 rfl) ?_
    refine g_getR (b := 56) C hP gl_DeskModel_56 rfl rfl rfl d_Model_set_22 ?_
    refine lv_iload_n hx hb d_Model_set_25 rfl (lv_at hl 1 rfl) ?_
    obtain ⟨hi26, hM⟩ := gc_some hM
    refine g_iald C hP rfl hi26 d_Model_set_26 ?_
    refine lv_iadd hx hb d_Model_set_27 ?_
    refine lv_iload_n hx hb d_Model_set_28 rfl (lv_at hl 2 rfl) ?_
    refine lv_sipush (v := (32767 : Int32)) hx hb d_Model_set_29 (by decide) ?_
    refine lv_iand hx hb d_Model_set_32 ?_
    obtain ⟨hi33, hM⟩ := gc_some hM
    obtain ⟨u33, e33, hM⟩ := gb_some hM
    refine g_iast C hP hS rfl hi33 d_Model_set_33 (fun H locs hP hS => ?_)
    rw [Option.some.inj e33] at hP
    refine lv_aload_n hx hb d_Model_set_34 rfl (lv_at hl 0 rfl) ?_
    refine g_getR (b := 56) C hP gl_DeskModel_56 rfl rfl rfl d_Model_set_35 ?_
    refine lv_iload_n hx hb d_Model_set_38 rfl (lv_at hl 1 rfl) ?_
    refine lv_dup2_11 hx hb d_Model_set_39 rfl rfl ?_
    obtain ⟨hi40, hM⟩ := gc_some hM
    refine g_iald C hP rfl hi40 d_Model_set_40 ?_
    refine lv_iconst (v := (1 : Int32)) hx hb d_Model_set_41 (by decide) ?_
    refine lv_iadd hx hb d_Model_set_42 ?_
    obtain ⟨hi43, hM⟩ := gc_some hM
    obtain ⟨u43, e43, hM⟩ := gb_some hM
    refine g_iast C hP hS rfl hi43 d_Model_set_43 (fun H locs hP hS => ?_)
    rw [Option.some.inj e43] at hP
    refine lv_iload_n hx hb d_Model_set_44 rfl (lv_at hl 2 rfl) ?_
    refine lv_bipush (v := (15 : Int32)) hx hb d_Model_set_45 (by decide) ?_
    refine lv_ishr hx hb d_Model_set_47 ?_
    refine lv_istore_n (lv' := [(3, .int (x3 >>> ((15 : Int32) &&& (31 : Int32)))), (0, .ref (ρ 42)), (1, .int x1)]) hx hb d_Model_set_48 rfl hl (by decide) rfl (fun ls hl => ?_)
    refine lv_goto (tgt := 9) hx hb d_Model_set_49 (by decide) ?_
    exact hN _ _ _ (Option.some.inj hM).symm ls H locs (lv_sub hl [1, 2, 0] rfl) hP hS
noncomputable def M_Model_set_L9 : (Int32 × Int32 × gSt) → Option ((Int32 × Int32 × gSt) ⊕ ((gSt))) := fun x => M_Model_set_b9 x.1 x.2.1 x.2.2
theorem t_Model_set_L9 (C : gX "TermDeskModel" prog_13_method_6_code 4 none 0 0 R cells slots cy D ρ A p s m args meth c) {x1 : Int32} {x3 : Int32} {u : gSt} {yy : (gSt)} (hL : gLp M_Model_set_L9 (x1, x3, u) = some yy) (hE0 : (∀ y', yy = y' → gAt p l e R s m args below meth c Q H0 cells slots cy D ρ A 4 52 [] [] (y'))) : gAt p l e R s m args below meth c Q H0 cells slots cy D ρ A 4 9 [(0, .ref (ρ 42)), (1, .int x1), (3, .int x3)] [] u :=
  g_loop (f := M_Model_set_L9) (P := fun x => gAt p l e R s m args below meth c Q H0 cells slots cy D ρ A 4 9 [(0, .ref (ρ 42)), (1, .int x.1), (3, .int x.2.1)] [] x.2.2) (E := fun yy => (∀ y', yy = y' → gAt p l e R s m args below meth c Q H0 cells slots cy D ρ A 4 52 [] [] (y'))) (fun x z hf hN hE => t_Model_set_b9 C hf (fun x1' x3' u' h => hN (x1', x3', u') h) (fun u' h => (hE _ h) u' rfl)) hL hE0
noncomputable def M_Model_set (x1 : Int32) (x2 : Int32) (u : gSt) : Option (gSt) :=
  gc (gIn x1 (gLen 56)) <| (some (gsA u 56 (gIx x1) (0 : Int32))).bind fun u6 =>
  (gLp M_Model_set_L9 (x1, x2, u6)).bind fun y9 =>
  some y9
set_option maxHeartbeats 4000000 in
set_option maxRecDepth 100000 in
theorem t_Model_set (C : gX "TermDeskModel" prog_13_method_6_code 4 none 0 0 R cells slots cy D ρ A p s m args meth c) {x1 : Int32} {x2 : Int32} {u : gSt} {z : gSt} (hM : M_Model_set x1 x2 u = some z) (hR : gRtV p l e R s m args below meth c Q H0 cells slots cy D ρ A prog_13_method_6_code z) : gAt p l e R s m args below meth c Q H0 cells slots cy D ρ A 4 0 [(0, .ref (ρ 42)), (1, .int x1), (2, .int x2)] [] u := by
  intro ls H locs hl hP hS
  have hx := C.1
  have hb := C.2.1
  unfold M_Model_set at hM
  refine lv_aload_n hx hb d_Model_set_0 rfl (lv_at hl 0 rfl) ?_
  refine g_getR (b := 56) C hP gl_DeskModel_56 rfl rfl rfl d_Model_set_1 ?_
  refine lv_iload_n hx hb d_Model_set_4 rfl (lv_at hl 1 rfl) ?_
  refine lv_iconst (v := (0 : Int32)) hx hb d_Model_set_5 (by decide) ?_
  obtain ⟨hi6, hM⟩ := gc_some hM
  obtain ⟨u6, e6, hM⟩ := gb_some hM
  refine g_iast C hP hS rfl hi6 d_Model_set_6 (fun H locs hP hS => ?_)
  rw [Option.some.inj e6] at hP
  refine lv_iload_n hx hb d_Model_set_7 rfl (lv_at hl 2 rfl) ?_
  refine lv_istore_n (lv' := [(3, .int x2), (0, .ref (ρ 42)), (1, .int x1), (2, .int x2)]) hx hb d_Model_set_8 rfl hl (by decide) rfl (fun ls hl => ?_)
  obtain ⟨y9, hL9, hM⟩ := gb_some hM
  refine t_Model_set_L9 C hL9 (fun y9_0 hy => ?_) ls H locs (lv_sub hl [1, 2, 0] rfl) hP hS
  · subst hy
    intro ls H locs hl hP hS
    obtain rfl := Option.some.inj hM
    exact hR _ ls H locs d_Model_set_52 hP hS
theorem c_Model_set {l : Launch} {cy : Nat → ClassId} {D : va_G} {ρ : Nat → Nat} {A : Nat → Prop} (hD : gD ρ A) {x1 : Int32} {x2 : Int32} {u : gSt} {z : gSt} (hM : M_Model_set x1 x2 u = some z) : gCtV l y_Model_set prog_13_method_6_code 4 none 0 0 cy D ρ A [.ref (ρ 42), .int x1, .int x2] u z :=
  g_met (by decide) hD (Nat.le_of_ble_eq_true rfl) (fun p e s m below meth c ls X hl hP => t_Model_set X hM (fun pc ls H locs hd hP hS => g_vret X hP hS hd) ls _ [] hl hP va_S.rf)
end
section
variable {p : Program} {l : Launch} {e : Env} {R : Room} {s : State} {m : MethodId} {args : Array Value} {below : List Frame} {meth : Method} {c : Code} {Q : State → Prop} {H0 : Heap} {cells slots : Nat} {cy : Nat → ClassId} {D : va_G} {ρ : Nat → Nat} {A : Nat → Prop}
def y_Model_copyNumber : MethodName := ⟨"TermDeskModel", "copyNumber", "(II)V"⟩
theorem gi_Model_copyNumber : gMi y_Model_copyNumber prog_13_method_7_code 4 none 2 8 := ⟨(gWs_at 1363 (by decide +kernel) (by decide +kernel)), (gWs_at 1362 (by decide +kernel) (by decide +kernel)), (gWs_at 106 (by decide +kernel) (by decide +kernel)), (gWs_at 125 (by decide +kernel) (by decide +kernel)), ⟨by decide +kernel, by decide +kernel, by decide +kernel⟩, _, _, rfl⟩
theorem gm_Model_112 : gMk "TermDeskModel" 112 y_Model_copyNumber := Or.inl (gWs_at 1360 (by decide +kernel) (by decide +kernel))
theorem d_Model_copyNumber_0 : decode prog_13_method_7_code 0 = .ok (.iconst 0, 1) := by decide +kernel
theorem d_Model_copyNumber_1 : decode prog_13_method_7_code 1 = .ok (.istore_n 3, 1) := by decide +kernel
theorem d_Model_copyNumber_2 : decode prog_13_method_7_code 2 = .ok (.iload_n 3, 1) := by decide +kernel
theorem d_Model_copyNumber_3 : decode prog_13_method_7_code 3 = .ok (.aload_n 0, 1) := by decide +kernel
theorem d_Model_copyNumber_4 : decode prog_13_method_7_code 4 = .ok (.getfield 56, 3) := by decide +kernel
theorem d_Model_copyNumber_7 : decode prog_13_method_7_code 7 = .ok (.iload_n 2, 1) := by decide +kernel
theorem d_Model_copyNumber_8 : decode prog_13_method_7_code 8 = .ok (.iaload, 1) := by decide +kernel
theorem d_Model_copyNumber_9 : decode prog_13_method_7_code 9 = .ok (.if_icmp .ge 31, 3) := by decide +kernel
theorem d_Model_copyNumber_12 : decode prog_13_method_7_code 12 = .ok (.aload_n 0, 1) := by decide +kernel
theorem d_Model_copyNumber_13 : decode prog_13_method_7_code 13 = .ok (.getfield 53, 3) := by decide +kernel
theorem d_Model_copyNumber_16 : decode prog_13_method_7_code 16 = .ok (.bipush 48, 2) := by decide +kernel
theorem d_Model_copyNumber_18 : decode prog_13_method_7_code 18 = .ok (.iload_n 1, 1) := by decide +kernel
theorem d_Model_copyNumber_19 : decode prog_13_method_7_code 19 = .ok (.imul, 1) := by decide +kernel
theorem d_Model_copyNumber_20 : decode prog_13_method_7_code 20 = .ok (.iload_n 3, 1) := by decide +kernel
theorem d_Model_copyNumber_21 : decode prog_13_method_7_code 21 = .ok (.iadd, 1) := by decide +kernel
theorem d_Model_copyNumber_22 : decode prog_13_method_7_code 22 = .ok (.aload_n 0, 1) := by decide +kernel
theorem d_Model_copyNumber_23 : decode prog_13_method_7_code 23 = .ok (.getfield 53, 3) := by decide +kernel
theorem d_Model_copyNumber_26 : decode prog_13_method_7_code 26 = .ok (.bipush 48, 2) := by decide +kernel
theorem d_Model_copyNumber_28 : decode prog_13_method_7_code 28 = .ok (.iload_n 2, 1) := by decide +kernel
theorem d_Model_copyNumber_29 : decode prog_13_method_7_code 29 = .ok (.imul, 1) := by decide +kernel
theorem d_Model_copyNumber_30 : decode prog_13_method_7_code 30 = .ok (.iload_n 3, 1) := by decide +kernel
theorem d_Model_copyNumber_31 : decode prog_13_method_7_code 31 = .ok (.iadd, 1) := by decide +kernel
theorem d_Model_copyNumber_32 : decode prog_13_method_7_code 32 = .ok (.iaload, 1) := by decide +kernel
theorem d_Model_copyNumber_33 : decode prog_13_method_7_code 33 = .ok (.iastore, 1) := by decide +kernel
theorem d_Model_copyNumber_34 : decode prog_13_method_7_code 34 = .ok (.iinc 3 1, 3) := by decide +kernel
theorem d_Model_copyNumber_37 : decode prog_13_method_7_code 37 = .ok (.goto (-35), 3) := by decide +kernel
theorem d_Model_copyNumber_40 : decode prog_13_method_7_code 40 = .ok (.aload_n 0, 1) := by decide +kernel
theorem d_Model_copyNumber_41 : decode prog_13_method_7_code 41 = .ok (.getfield 56, 3) := by decide +kernel
theorem d_Model_copyNumber_44 : decode prog_13_method_7_code 44 = .ok (.iload_n 1, 1) := by decide +kernel
theorem d_Model_copyNumber_45 : decode prog_13_method_7_code 45 = .ok (.aload_n 0, 1) := by decide +kernel
theorem d_Model_copyNumber_46 : decode prog_13_method_7_code 46 = .ok (.getfield 56, 3) := by decide +kernel
theorem d_Model_copyNumber_49 : decode prog_13_method_7_code 49 = .ok (.iload_n 2, 1) := by decide +kernel
theorem d_Model_copyNumber_50 : decode prog_13_method_7_code 50 = .ok (.iaload, 1) := by decide +kernel
theorem d_Model_copyNumber_51 : decode prog_13_method_7_code 51 = .ok (.iastore, 1) := by decide +kernel
theorem d_Model_copyNumber_52 : decode prog_13_method_7_code 52 = .ok (.return_, 1) := by decide +kernel
noncomputable def M_Model_copyNumber_b2 (x1 : Int32) (x2 : Int32) (x3 : Int32) (u : gSt) : Option ((Int32 × Int32 × Int32 × gSt) ⊕ ((Int32 × Int32 × gSt))) :=
  gc (gIn x2 (gLen 56)) <| if (u.2.2.1 56 (gIx x2)) ≤ x3 then
    (some (.inr (x1, x2, u)))
  else
    (gc (gIn (((48 : Int32) * x2) + x3) (gLen 55)) <| gc (gIn (((48 : Int32) * x1) + x3) (gLen 55)) <| (some (gsA u 55 (gIx (((48 : Int32) * x1) + x3)) (u.2.2.1 55 (gIx (((48 : Int32) * x2) + x3))))).bind fun u33 =>
    some (.inl (x1, x2, x3 + (1 : Int32), u33)))
set_option maxHeartbeats 4000000 in
set_option maxRecDepth 100000 in
theorem t_Model_copyNumber_b2 (C : gX "TermDeskModel" prog_13_method_7_code 4 none 0 0 R cells slots cy D ρ A p s m args meth c) {x1 : Int32} {x2 : Int32} {x3 : Int32} {u : gSt} {z : (Int32 × Int32 × Int32 × gSt) ⊕ ((Int32 × Int32 × gSt))} (hM : M_Model_copyNumber_b2 x1 x2 x3 u = some z) (hN : ∀ x1' x2' x3' u', z = .inl (x1', x2', x3', u') → gAt p l e R s m args below meth c Q H0 cells slots cy D ρ A 4 2 [(0, .ref (ρ 42)), (1, .int (x1')), (2, .int (x2')), (3, .int (x3'))] [] (u')) (hE0 : ∀ x1' x2' u', z = .inr (x1', x2', u') → gAt p l e R s m args below meth c Q H0 cells slots cy D ρ A 4 40 [(0, .ref (ρ 42)), (1, .int (x1')), (2, .int (x2'))] [] (u')) : gAt p l e R s m args below meth c Q H0 cells slots cy D ρ A 4 2 [(0, .ref (ρ 42)), (1, .int x1), (2, .int x2), (3, .int x3)] [] u := by
  intro ls H locs hl hP hS
  have hx := C.1
  have hb := C.2.1
  unfold M_Model_copyNumber_b2 at hM
  refine lv_iload_n hx hb d_Model_copyNumber_2 rfl (lv_at hl 3 rfl) ?_
  refine lv_aload_n hx hb d_Model_copyNumber_3 rfl (lv_at hl 0 rfl) ?_
  refine g_getR (b := 56) C hP gl_DeskModel_56 rfl rfl rfl d_Model_copyNumber_4 ?_
  refine lv_iload_n hx hb d_Model_copyNumber_7 rfl (lv_at hl 2 rfl) ?_
  obtain ⟨hi8, hM⟩ := gc_some hM
  refine g_iald C hP rfl hi8 d_Model_copyNumber_8 ?_
  refine lv_icmp_ge (tgt := 40) hx hb d_Model_copyNumber_9 (by decide) (fun hc9 => ?_) (fun hc9 => ?_)
  · replace hM := gi_t hc9 hM
    exact hE0 _ _ _ (Option.some.inj hM).symm ls H locs (lv_sub hl [0, 1, 2] rfl) hP hS
  · replace hM := gi_f hc9 hM
    refine lv_aload_n hx hb d_Model_copyNumber_12 rfl (lv_at hl 0 rfl) ?_
    refine g_getR (b := 55) C hP gl_DeskModel_53 rfl rfl rfl d_Model_copyNumber_13 ?_
    refine lv_bipush (v := (48 : Int32)) hx hb d_Model_copyNumber_16 (by decide) ?_
    refine lv_iload_n hx hb d_Model_copyNumber_18 rfl (lv_at hl 1 rfl) ?_
    refine lv_imul hx hb d_Model_copyNumber_19 ?_
    refine lv_iload_n hx hb d_Model_copyNumber_20 rfl (lv_at hl 3 rfl) ?_
    refine lv_iadd hx hb d_Model_copyNumber_21 ?_
    refine lv_aload_n hx hb d_Model_copyNumber_22 rfl (lv_at hl 0 rfl) ?_
    refine g_getR (b := 55) C hP gl_DeskModel_53 rfl rfl rfl d_Model_copyNumber_23 ?_
    refine lv_bipush (v := (48 : Int32)) hx hb d_Model_copyNumber_26 (by decide) ?_
    refine lv_iload_n hx hb d_Model_copyNumber_28 rfl (lv_at hl 2 rfl) ?_
    refine lv_imul hx hb d_Model_copyNumber_29 ?_
    refine lv_iload_n hx hb d_Model_copyNumber_30 rfl (lv_at hl 3 rfl) ?_
    refine lv_iadd hx hb d_Model_copyNumber_31 ?_
    obtain ⟨hi32, hM⟩ := gc_some hM
    refine g_iald C hP rfl hi32 d_Model_copyNumber_32 ?_
    obtain ⟨hi33, hM⟩ := gc_some hM
    obtain ⟨u33, e33, hM⟩ := gb_some hM
    refine g_iast C hP hS rfl hi33 d_Model_copyNumber_33 (fun H locs hP hS => ?_)
    rw [Option.some.inj e33] at hP
    refine lv_iinc (k := 3) (v := x3 + (1 : Int32)) (lv' := [(3, .int (x3 + (1 : Int32))), (0, .ref (ρ 42)), (1, .int x1), (2, .int x2)]) hx hb d_Model_copyNumber_34 hl rfl (congrArg (fun z => x3 + z) (by decide)) (by decide) rfl (fun ls hl => ?_)
    refine lv_goto (tgt := 2) hx hb d_Model_copyNumber_37 (by decide) ?_
    exact hN _ _ _ _ (Option.some.inj hM).symm ls H locs (lv_sub hl [1, 2, 3, 0] rfl) hP hS
noncomputable def M_Model_copyNumber_L2 : (Int32 × Int32 × Int32 × gSt) → Option ((Int32 × Int32 × Int32 × gSt) ⊕ ((Int32 × Int32 × gSt))) := fun x => M_Model_copyNumber_b2 x.1 x.2.1 x.2.2.1 x.2.2.2
theorem t_Model_copyNumber_L2 (C : gX "TermDeskModel" prog_13_method_7_code 4 none 0 0 R cells slots cy D ρ A p s m args meth c) {x1 : Int32} {x2 : Int32} {x3 : Int32} {u : gSt} {yy : (Int32 × Int32 × gSt)} (hL : gLp M_Model_copyNumber_L2 (x1, x2, x3, u) = some yy) (hE0 : (∀ y', yy = y' → gAt p l e R s m args below meth c Q H0 cells slots cy D ρ A 4 40 [(0, .ref (ρ 42)), (1, .int (y'.1)), (2, .int (y'.2.1))] [] (y'.2.2))) : gAt p l e R s m args below meth c Q H0 cells slots cy D ρ A 4 2 [(0, .ref (ρ 42)), (1, .int x1), (2, .int x2), (3, .int x3)] [] u :=
  g_loop (f := M_Model_copyNumber_L2) (P := fun x => gAt p l e R s m args below meth c Q H0 cells slots cy D ρ A 4 2 [(0, .ref (ρ 42)), (1, .int x.1), (2, .int x.2.1), (3, .int x.2.2.1)] [] x.2.2.2) (E := fun yy => (∀ y', yy = y' → gAt p l e R s m args below meth c Q H0 cells slots cy D ρ A 4 40 [(0, .ref (ρ 42)), (1, .int (y'.1)), (2, .int (y'.2.1))] [] (y'.2.2))) (fun x z hf hN hE => t_Model_copyNumber_b2 C hf (fun x1' x2' x3' u' h => hN (x1', x2', x3', u') h) (fun x1' x2' u' h => (hE _ h) (x1', x2', u') rfl)) hL hE0
noncomputable def M_Model_copyNumber (x1 : Int32) (x2 : Int32) (u : gSt) : Option (gSt) :=
  (gLp M_Model_copyNumber_L2 (x1, x2, (0 : Int32), u)).bind fun y2 =>
  gc (gIn y2.2.1 (gLen 56)) <| gc (gIn y2.1 (gLen 56)) <| (some (gsA y2.2.2 56 (gIx y2.1) (y2.2.2.2.2.1 56 (gIx y2.2.1)))).bind fun u51 =>
  some u51
set_option maxHeartbeats 4000000 in
set_option maxRecDepth 100000 in
theorem t_Model_copyNumber (C : gX "TermDeskModel" prog_13_method_7_code 4 none 0 0 R cells slots cy D ρ A p s m args meth c) {x1 : Int32} {x2 : Int32} {u : gSt} {z : gSt} (hM : M_Model_copyNumber x1 x2 u = some z) (hR : gRtV p l e R s m args below meth c Q H0 cells slots cy D ρ A prog_13_method_7_code z) : gAt p l e R s m args below meth c Q H0 cells slots cy D ρ A 4 0 [(0, .ref (ρ 42)), (1, .int x1), (2, .int x2)] [] u := by
  intro ls H locs hl hP hS
  have hx := C.1
  have hb := C.2.1
  unfold M_Model_copyNumber at hM
  refine lv_iconst (v := (0 : Int32)) hx hb d_Model_copyNumber_0 (by decide) ?_
  refine lv_istore_n (lv' := [(3, .int (0 : Int32)), (0, .ref (ρ 42)), (1, .int x1), (2, .int x2)]) hx hb d_Model_copyNumber_1 rfl hl (by decide) rfl (fun ls hl => ?_)
  obtain ⟨y2, hL2, hM⟩ := gb_some hM
  refine t_Model_copyNumber_L2 C hL2 (fun y2_0 hy => ?_) ls H locs (lv_sub hl [1, 2, 3, 0] rfl) hP hS
  · subst hy
    intro ls H locs hl hP hS
    refine lv_aload_n hx hb d_Model_copyNumber_40 rfl (lv_at hl 0 rfl) ?_
    refine g_getR (b := 56) C hP gl_DeskModel_56 rfl rfl rfl d_Model_copyNumber_41 ?_
    refine lv_iload_n hx hb d_Model_copyNumber_44 rfl (lv_at hl 1 rfl) ?_
    refine lv_aload_n hx hb d_Model_copyNumber_45 rfl (lv_at hl 0 rfl) ?_
    refine g_getR (b := 56) C hP gl_DeskModel_56 rfl rfl rfl d_Model_copyNumber_46 ?_
    refine lv_iload_n hx hb d_Model_copyNumber_49 rfl (lv_at hl 2 rfl) ?_
    obtain ⟨hi50, hM⟩ := gc_some hM
    refine g_iald C hP rfl hi50 d_Model_copyNumber_50 ?_
    obtain ⟨hi51, hM⟩ := gc_some hM
    obtain ⟨u51, e51, hM⟩ := gb_some hM
    refine g_iast C hP hS rfl hi51 d_Model_copyNumber_51 (fun H locs hP hS => ?_)
    rw [Option.some.inj e51] at hP
    obtain rfl := Option.some.inj hM
    exact hR _ ls H locs d_Model_copyNumber_52 hP hS
theorem c_Model_copyNumber {l : Launch} {cy : Nat → ClassId} {D : va_G} {ρ : Nat → Nat} {A : Nat → Prop} (hD : gD ρ A) {x1 : Int32} {x2 : Int32} {u : gSt} {z : gSt} (hM : M_Model_copyNumber x1 x2 u = some z) : gCtV l y_Model_copyNumber prog_13_method_7_code 4 none 0 0 cy D ρ A [.ref (ρ 42), .int x1, .int x2] u z :=
  g_met (by decide) hD (Nat.le_of_ble_eq_true rfl) (fun p e s m below meth c ls X hl hP => t_Model_copyNumber X hM (fun pc ls H locs hd hP hS => g_vret X hP hS hd) ls _ [] hl hP va_S.rf)
end
section
variable {p : Program} {l : Launch} {e : Env} {R : Room} {s : State} {m : MethodId} {args : Array Value} {below : List Frame} {meth : Method} {c : Code} {Q : State → Prop} {H0 : Heap} {cells slots : Nat} {cy : Nat → ClassId} {D : va_G} {ρ : Nat → Nat} {A : Nat → Prop}
def y_Model_order : MethodName := ⟨"TermDeskModel", "order", "(II)I"⟩
theorem gi_Model_order : gMi y_Model_order prog_13_method_8_code 4 (some .int) 2 8 := ⟨(gWs_at 1347 (by decide +kernel) (by decide +kernel)), (gWs_at 1346 (by decide +kernel) (by decide +kernel)), (gWs_at 102 (by decide +kernel) (by decide +kernel)), (gWs_at 125 (by decide +kernel) (by decide +kernel)), ⟨by decide +kernel, by decide +kernel, by decide +kernel⟩, _, _, rfl⟩
theorem gm_Model_121 : gMk "TermDeskModel" 121 y_Model_order := Or.inl (gWs_at 1344 (by decide +kernel) (by decide +kernel))
theorem d_Model_order_0 : decode prog_13_method_8_code 0 = .ok (.aload_n 0, 1) := by decide +kernel
theorem d_Model_order_1 : decode prog_13_method_8_code 1 = .ok (.getfield 56, 3) := by decide +kernel
theorem d_Model_order_4 : decode prog_13_method_8_code 4 = .ok (.iload_n 1, 1) := by decide +kernel
theorem d_Model_order_5 : decode prog_13_method_8_code 5 = .ok (.iaload, 1) := by decide +kernel
theorem d_Model_order_6 : decode prog_13_method_8_code 6 = .ok (.aload_n 0, 1) := by decide +kernel
theorem d_Model_order_7 : decode prog_13_method_8_code 7 = .ok (.getfield 56, 3) := by decide +kernel
theorem d_Model_order_10 : decode prog_13_method_8_code 10 = .ok (.iload_n 2, 1) := by decide +kernel
theorem d_Model_order_11 : decode prog_13_method_8_code 11 = .ok (.iaload, 1) := by decide +kernel
theorem d_Model_order_12 : decode prog_13_method_8_code 12 = .ok (.if_icmp .eq 24, 3) := by decide +kernel
theorem d_Model_order_15 : decode prog_13_method_8_code 15 = .ok (.aload_n 0, 1) := by decide +kernel
theorem d_Model_order_16 : decode prog_13_method_8_code 16 = .ok (.getfield 56, 3) := by decide +kernel
theorem d_Model_order_19 : decode prog_13_method_8_code 19 = .ok (.iload_n 1, 1) := by decide +kernel
theorem d_Model_order_20 : decode prog_13_method_8_code 20 = .ok (.iaload, 1) := by decide +kernel
theorem d_Model_order_21 : decode prog_13_method_8_code 21 = .ok (.aload_n 0, 1) := by decide +kernel
theorem d_Model_order_22 : decode prog_13_method_8_code 22 = .ok (.getfield 56, 3) := by decide +kernel
theorem d_Model_order_25 : decode prog_13_method_8_code 25 = .ok (.iload_n 2, 1) := by decide +kernel
theorem d_Model_order_26 : decode prog_13_method_8_code 26 = .ok (.iaload, 1) := by decide +kernel
theorem d_Model_order_27 : decode prog_13_method_8_code 27 = .ok (.if_icmp .ge 7, 3) := by decide +kernel
theorem d_Model_order_30 : decode prog_13_method_8_code 30 = .ok (.iconst (-1), 1) := by decide +kernel
theorem d_Model_order_31 : decode prog_13_method_8_code 31 = .ok (.goto 4, 3) := by decide +kernel
theorem d_Model_order_34 : decode prog_13_method_8_code 34 = .ok (.iconst 1, 1) := by decide +kernel
theorem d_Model_order_35 : decode prog_13_method_8_code 35 = .ok (.ireturn, 1) := by decide +kernel
theorem d_Model_order_36 : decode prog_13_method_8_code 36 = .ok (.aload_n 0, 1) := by decide +kernel
theorem d_Model_order_37 : decode prog_13_method_8_code 37 = .ok (.getfield 56, 3) := by decide +kernel
theorem d_Model_order_40 : decode prog_13_method_8_code 40 = .ok (.iload_n 1, 1) := by decide +kernel
theorem d_Model_order_41 : decode prog_13_method_8_code 41 = .ok (.iaload, 1) := by decide +kernel
theorem d_Model_order_42 : decode prog_13_method_8_code 42 = .ok (.iconst 1, 1) := by decide +kernel
theorem d_Model_order_43 : decode prog_13_method_8_code 43 = .ok (.isub, 1) := by decide +kernel
theorem d_Model_order_44 : decode prog_13_method_8_code 44 = .ok (.istore_n 3, 1) := by decide +kernel
theorem d_Model_order_45 : decode prog_13_method_8_code 45 = .ok (.iload_n 3, 1) := by decide +kernel
theorem d_Model_order_46 : decode prog_13_method_8_code 46 = .ok (.ifCond .lt 45, 3) := by decide +kernel
theorem d_Model_order_49 : decode prog_13_method_8_code 49 = .ok (.aload_n 0, 1) := by decide +kernel
theorem d_Model_order_50 : decode prog_13_method_8_code 50 = .ok (.iload_n 1, 1) := by decide +kernel
theorem d_Model_order_51 : decode prog_13_method_8_code 51 = .ok (.iload_n 3, 1) := by decide +kernel
theorem d_Model_order_52 : decode prog_13_method_8_code 52 = .ok (.invokevirtual 89, 3) := by decide +kernel
theorem d_Model_order_55 : decode prog_13_method_8_code 55 = .ok (.aload_n 0, 1) := by decide +kernel
theorem d_Model_order_56 : decode prog_13_method_8_code 56 = .ok (.iload_n 2, 1) := by decide +kernel
theorem d_Model_order_57 : decode prog_13_method_8_code 57 = .ok (.iload_n 3, 1) := by decide +kernel
theorem d_Model_order_58 : decode prog_13_method_8_code 58 = .ok (.invokevirtual 89, 3) := by decide +kernel
theorem d_Model_order_61 : decode prog_13_method_8_code 61 = .ok (.if_icmp .eq 24, 3) := by decide +kernel
theorem d_Model_order_64 : decode prog_13_method_8_code 64 = .ok (.aload_n 0, 1) := by decide +kernel
theorem d_Model_order_65 : decode prog_13_method_8_code 65 = .ok (.iload_n 1, 1) := by decide +kernel
theorem d_Model_order_66 : decode prog_13_method_8_code 66 = .ok (.iload_n 3, 1) := by decide +kernel
theorem d_Model_order_67 : decode prog_13_method_8_code 67 = .ok (.invokevirtual 89, 3) := by decide +kernel
theorem d_Model_order_70 : decode prog_13_method_8_code 70 = .ok (.aload_n 0, 1) := by decide +kernel
theorem d_Model_order_71 : decode prog_13_method_8_code 71 = .ok (.iload_n 2, 1) := by decide +kernel
theorem d_Model_order_72 : decode prog_13_method_8_code 72 = .ok (.iload_n 3, 1) := by decide +kernel
theorem d_Model_order_73 : decode prog_13_method_8_code 73 = .ok (.invokevirtual 89, 3) := by decide +kernel
theorem d_Model_order_76 : decode prog_13_method_8_code 76 = .ok (.if_icmp .ge 7, 3) := by decide +kernel
theorem d_Model_order_79 : decode prog_13_method_8_code 79 = .ok (.iconst (-1), 1) := by decide +kernel
theorem d_Model_order_80 : decode prog_13_method_8_code 80 = .ok (.goto 4, 3) := by decide +kernel
theorem d_Model_order_83 : decode prog_13_method_8_code 83 = .ok (.iconst 1, 1) := by decide +kernel
theorem d_Model_order_84 : decode prog_13_method_8_code 84 = .ok (.ireturn, 1) := by decide +kernel
theorem d_Model_order_85 : decode prog_13_method_8_code 85 = .ok (.iinc 3 (-1), 3) := by decide +kernel
theorem d_Model_order_88 : decode prog_13_method_8_code 88 = .ok (.goto (-43), 3) := by decide +kernel
theorem d_Model_order_91 : decode prog_13_method_8_code 91 = .ok (.iconst 0, 1) := by decide +kernel
theorem d_Model_order_92 : decode prog_13_method_8_code 92 = .ok (.ireturn, 1) := by decide +kernel
noncomputable def M_Model_order_b45 (x1 : Int32) (x2 : Int32) (x3 : Int32) (u : gSt) : Option ((Int32 × Int32 × Int32 × gSt) ⊕ ((gSt) ⊕ (Int32 × Int32 × Int32 × gSt))) :=
  if x3 < (0 : Int32) then
    (some (.inr (.inl u)))
  else
    ((M_Model_digit x1 x3 u).bind fun q52 =>
    (M_Model_digit x2 x3 q52.2).bind fun q58 =>
    if q52.1 = q58.1 then
      (some (.inl (x1, x2, x3 + (-1 : Int32), q58.2)))
    else
      (some (.inr (.inr (x1, x2, x3, q58.2)))))
set_option maxHeartbeats 4000000 in
set_option maxRecDepth 100000 in
theorem t_Model_order_b45 (C : gX "TermDeskModel" prog_13_method_8_code 4 (some .int) 1 22 R cells slots cy D ρ A p s m args meth c) {x1 : Int32} {x2 : Int32} {x3 : Int32} {u : gSt} {z : (Int32 × Int32 × Int32 × gSt) ⊕ ((gSt) ⊕ (Int32 × Int32 × Int32 × gSt))} (hM : M_Model_order_b45 x1 x2 x3 u = some z) (hN : ∀ x1' x2' x3' u', z = .inl (x1', x2', x3', u') → gAt p l e R s m args below meth c Q H0 cells slots cy D ρ A 4 45 [(0, .ref (ρ 42)), (1, .int (x1')), (2, .int (x2')), (3, .int (x3'))] [] (u')) (hE0 : ∀ u', z = .inr (.inl u') → gAt p l e R s m args below meth c Q H0 cells slots cy D ρ A 4 91 [] [] (u')) (hE1 : ∀ x1' x2' x3' u', z = .inr (.inr (x1', x2', x3', u')) → gAt p l e R s m args below meth c Q H0 cells slots cy D ρ A 4 64 [(0, .ref (ρ 42)), (1, .int (x1')), (2, .int (x2')), (3, .int (x3'))] [] (u')) : gAt p l e R s m args below meth c Q H0 cells slots cy D ρ A 4 45 [(0, .ref (ρ 42)), (1, .int x1), (2, .int x2), (3, .int x3)] [] u := by
  intro ls H locs hl hP hS
  have hx := C.1
  have hb := C.2.1
  unfold M_Model_order_b45 at hM
  refine lv_iload_n hx hb d_Model_order_45 rfl (lv_at hl 3 rfl) ?_
  refine lv_if_lt (tgt := 91) hx hb d_Model_order_46 (by decide) (fun hc46 => ?_) (fun hc46 => ?_)
  · replace hM := gi_t hc46 hM
    exact hE0 _ (Option.some.inj hM).symm ls H locs (lv_sub hl [] rfl) hP hS
  · replace hM := gi_f hc46 hM
    refine lv_aload_n hx hb d_Model_order_49 rfl (lv_at hl 0 rfl) ?_
    refine lv_iload_n hx hb d_Model_order_50 rfl (lv_at hl 1 rfl) ?_
    refine lv_iload_n hx hb d_Model_order_51 rfl (lv_at hl 3 rfl) ?_
    obtain ⟨q52, hq52, hM⟩ := gb_some hM
    refine g_backI (g_runV (As := [.int x1, .int x3]) C hP (c_Model_digit C.2.2.2.2.2.2.2.2.1 hq52) gi_Model_digit gm_Model_89 rfl rfl (by decide) (by decide) hl.1 rfl (Nat.le_of_ble_eq_true rfl) d_Model_order_52) hS (fun H locs hP hS => ?_)
    refine lv_aload_n hx hb d_Model_order_55 rfl (lv_at hl 0 rfl) ?_
    refine lv_iload_n hx hb d_Model_order_56 rfl (lv_at hl 2 rfl) ?_
    refine lv_iload_n hx hb d_Model_order_57 rfl (lv_at hl 3 rfl) ?_
    obtain ⟨q58, hq58, hM⟩ := gb_some hM
    refine g_backI (g_runV (As := [.int x2, .int x3]) C hP (c_Model_digit C.2.2.2.2.2.2.2.2.1 hq58) gi_Model_digit gm_Model_89 rfl rfl (by decide) (by decide) hl.1 rfl (Nat.le_of_ble_eq_true rfl) d_Model_order_58) hS (fun H locs hP hS => ?_)
    refine lv_icmp_eq (tgt := 85) hx hb d_Model_order_61 (by decide) (fun hc61 => ?_) (fun hc61 => ?_)
    · replace hM := gi_t hc61 hM
      refine lv_iinc (k := 3) (v := x3 + (-1 : Int32)) (lv' := [(3, .int (x3 + (-1 : Int32))), (0, .ref (ρ 42)), (1, .int x1), (2, .int x2)]) hx hb d_Model_order_85 hl rfl (congrArg (fun z => x3 + z) (by decide)) (by decide) rfl (fun ls hl => ?_)
      refine lv_goto (tgt := 45) hx hb d_Model_order_88 (by decide) ?_
      exact hN _ _ _ _ (Option.some.inj hM).symm ls H locs (lv_sub hl [1, 2, 3, 0] rfl) hP hS
    · replace hM := gi_f hc61 hM
      exact hE1 _ _ _ _ (Option.some.inj hM).symm ls H locs (lv_sub hl [0, 1, 2, 3] rfl) hP hS
noncomputable def M_Model_order_L45 : (Int32 × Int32 × Int32 × gSt) → Option ((Int32 × Int32 × Int32 × gSt) ⊕ ((gSt) ⊕ (Int32 × Int32 × Int32 × gSt))) := fun x => M_Model_order_b45 x.1 x.2.1 x.2.2.1 x.2.2.2
theorem t_Model_order_L45 (C : gX "TermDeskModel" prog_13_method_8_code 4 (some .int) 1 22 R cells slots cy D ρ A p s m args meth c) {x1 : Int32} {x2 : Int32} {x3 : Int32} {u : gSt} {yy : (gSt) ⊕ (Int32 × Int32 × Int32 × gSt)} (hL : gLp M_Model_order_L45 (x1, x2, x3, u) = some yy) (hE0 : (∀ y', yy = (.inl y') → gAt p l e R s m args below meth c Q H0 cells slots cy D ρ A 4 91 [] [] (y'))) (hE1 : (∀ y', yy = (.inr y') → gAt p l e R s m args below meth c Q H0 cells slots cy D ρ A 4 64 [(0, .ref (ρ 42)), (1, .int (y'.1)), (2, .int (y'.2.1)), (3, .int (y'.2.2.1))] [] (y'.2.2.2))) : gAt p l e R s m args below meth c Q H0 cells slots cy D ρ A 4 45 [(0, .ref (ρ 42)), (1, .int x1), (2, .int x2), (3, .int x3)] [] u :=
  g_loop (f := M_Model_order_L45) (P := fun x => gAt p l e R s m args below meth c Q H0 cells slots cy D ρ A 4 45 [(0, .ref (ρ 42)), (1, .int x.1), (2, .int x.2.1), (3, .int x.2.2.1)] [] x.2.2.2) (E := fun yy => (∀ y', yy = (.inl y') → gAt p l e R s m args below meth c Q H0 cells slots cy D ρ A 4 91 [] [] (y')) ∧ (∀ y', yy = (.inr y') → gAt p l e R s m args below meth c Q H0 cells slots cy D ρ A 4 64 [(0, .ref (ρ 42)), (1, .int (y'.1)), (2, .int (y'.2.1)), (3, .int (y'.2.2.1))] [] (y'.2.2.2))) (fun x z hf hN hE => t_Model_order_b45 C hf (fun x1' x2' x3' u' h => hN (x1', x2', x3', u') h) (fun u' h => (hE _ h).1 u' rfl) (fun x1' x2' x3' u' h => (hE _ h).2 (x1', x2', x3', u') rfl)) hL ⟨hE0, hE1⟩
noncomputable def M_Model_order_b84 (s0 : Int32) (u : gSt) : Option ((Int32 × gSt)) :=
  some (s0, u)
set_option maxHeartbeats 4000000 in
set_option maxRecDepth 100000 in
theorem t_Model_order_b84 (C : gX "TermDeskModel" prog_13_method_8_code 4 (some .int) 1 22 R cells slots cy D ρ A p s m args meth c) {s0 : Int32} {u : gSt} {z : (Int32 × gSt)} (hM : M_Model_order_b84 s0 u = some z) (hR : gRtI p l e R s m args below meth c Q H0 cells slots cy D ρ A prog_13_method_8_code z.1 z.2) : gAt p l e R s m args below meth c Q H0 cells slots cy D ρ A 4 84 [] [.int s0] u := by
  intro ls H locs hl hP hS
  have hx := C.1
  have hb := C.2.1
  unfold M_Model_order_b84 at hM
  obtain rfl := Option.some.inj hM
  exact hR _ ls H locs d_Model_order_84 hP hS
noncomputable def M_Model_order_b35 (s0 : Int32) (u : gSt) : Option ((Int32 × gSt)) :=
  some (s0, u)
set_option maxHeartbeats 4000000 in
set_option maxRecDepth 100000 in
theorem t_Model_order_b35 (C : gX "TermDeskModel" prog_13_method_8_code 4 (some .int) 1 22 R cells slots cy D ρ A p s m args meth c) {s0 : Int32} {u : gSt} {z : (Int32 × gSt)} (hM : M_Model_order_b35 s0 u = some z) (hR : gRtI p l e R s m args below meth c Q H0 cells slots cy D ρ A prog_13_method_8_code z.1 z.2) : gAt p l e R s m args below meth c Q H0 cells slots cy D ρ A 4 35 [] [.int s0] u := by
  intro ls H locs hl hP hS
  have hx := C.1
  have hb := C.2.1
  unfold M_Model_order_b35 at hM
  obtain rfl := Option.some.inj hM
  exact hR _ ls H locs d_Model_order_35 hP hS
noncomputable def M_Model_order (x1 : Int32) (x2 : Int32) (u : gSt) : Option ((Int32 × gSt)) :=
  gc (gIn x1 (gLen 56)) <| gc (gIn x2 (gLen 56)) <| if (u.2.2.1 56 (gIx x1)) = (u.2.2.1 56 (gIx x2)) then
    (gc (gIn x1 (gLen 56)) <| (gLp M_Model_order_L45 (x1, x2, (u.2.2.1 56 (gIx x1)) - (1 : Int32), u)).bind fun y45 =>
    (Sum.elim (fun y45_0 => some ((0 : Int32), y45_0)) (fun y45_1 => (M_Model_digit y45_1.1 y45_1.2.2.1 y45_1.2.2.2).bind fun q67 =>
    (M_Model_digit y45_1.2.1 y45_1.2.2.1 q67.2).bind fun q73 =>
    if q73.1 ≤ q67.1 then
      (M_Model_order_b84 (1 : Int32) q73.2)
    else
      (M_Model_order_b84 (-1 : Int32) q73.2))) y45)
  else
    (gc (gIn x1 (gLen 56)) <| gc (gIn x2 (gLen 56)) <| if (u.2.2.1 56 (gIx x2)) ≤ (u.2.2.1 56 (gIx x1)) then
      (M_Model_order_b35 (1 : Int32) u)
    else
      (M_Model_order_b35 (-1 : Int32) u))
set_option maxHeartbeats 4000000 in
set_option maxRecDepth 100000 in
theorem t_Model_order (C : gX "TermDeskModel" prog_13_method_8_code 4 (some .int) 1 22 R cells slots cy D ρ A p s m args meth c) {x1 : Int32} {x2 : Int32} {u : gSt} {z : (Int32 × gSt)} (hM : M_Model_order x1 x2 u = some z) (hR : gRtI p l e R s m args below meth c Q H0 cells slots cy D ρ A prog_13_method_8_code z.1 z.2) : gAt p l e R s m args below meth c Q H0 cells slots cy D ρ A 4 0 [(0, .ref (ρ 42)), (1, .int x1), (2, .int x2)] [] u := by
  intro ls H locs hl hP hS
  have hx := C.1
  have hb := C.2.1
  unfold M_Model_order at hM
  refine lv_aload_n hx hb d_Model_order_0 rfl (lv_at hl 0 rfl) ?_
  refine g_getR (b := 56) C hP gl_DeskModel_56 rfl rfl rfl d_Model_order_1 ?_
  refine lv_iload_n hx hb d_Model_order_4 rfl (lv_at hl 1 rfl) ?_
  obtain ⟨hi5, hM⟩ := gc_some hM
  refine g_iald C hP rfl hi5 d_Model_order_5 ?_
  refine lv_aload_n hx hb d_Model_order_6 rfl (lv_at hl 0 rfl) ?_
  refine g_getR (b := 56) C hP gl_DeskModel_56 rfl rfl rfl d_Model_order_7 ?_
  refine lv_iload_n hx hb d_Model_order_10 rfl (lv_at hl 2 rfl) ?_
  obtain ⟨hi11, hM⟩ := gc_some hM
  refine g_iald C hP rfl hi11 d_Model_order_11 ?_
  refine lv_icmp_eq (tgt := 36) hx hb d_Model_order_12 (by decide) (fun hc12 => ?_) (fun hc12 => ?_)
  · replace hM := gi_t hc12 hM
    refine lv_aload_n hx hb d_Model_order_36 rfl (lv_at hl 0 rfl) ?_
    refine g_getR (b := 56) C hP gl_DeskModel_56 rfl rfl rfl d_Model_order_37 ?_
    refine lv_iload_n hx hb d_Model_order_40 rfl (lv_at hl 1 rfl) ?_
    obtain ⟨hi41, hM⟩ := gc_some hM
    refine g_iald C hP rfl hi41 d_Model_order_41 ?_
    refine lv_iconst (v := (1 : Int32)) hx hb d_Model_order_42 (by decide) ?_
    refine lv_isub hx hb d_Model_order_43 ?_
    refine lv_istore_n (lv' := [(3, .int ((u.2.2.1 56 (gIx x1)) - (1 : Int32))), (0, .ref (ρ 42)), (1, .int x1), (2, .int x2)]) hx hb d_Model_order_44 rfl hl (by decide) rfl (fun ls hl => ?_)
    obtain ⟨y45, hL45, hM⟩ := gb_some hM
    refine t_Model_order_L45 C hL45 (fun y45_0 hy => ?_) (fun y45_1 hy => ?_) ls H locs (lv_sub hl [1, 2, 3, 0] rfl) hP hS
    · subst hy
      replace hM := gs_l hM
      intro ls H locs hl hP hS
      refine lv_iconst (v := (0 : Int32)) hx hb d_Model_order_91 (by decide) ?_
      obtain rfl := Option.some.inj hM
      exact hR _ ls H locs d_Model_order_92 hP hS
    · subst hy
      replace hM := gs_r hM
      intro ls H locs hl hP hS
      refine lv_aload_n hx hb d_Model_order_64 rfl (lv_at hl 0 rfl) ?_
      refine lv_iload_n hx hb d_Model_order_65 rfl (lv_at hl 1 rfl) ?_
      refine lv_iload_n hx hb d_Model_order_66 rfl (lv_at hl 3 rfl) ?_
      obtain ⟨q67, hq67, hM⟩ := gb_some hM
      refine g_backI (g_runV (As := [.int y45_1.1, .int y45_1.2.2.1]) C hP (c_Model_digit C.2.2.2.2.2.2.2.2.1 hq67) gi_Model_digit gm_Model_89 rfl rfl (by decide) (by decide) hl.1 rfl (Nat.le_of_ble_eq_true rfl) d_Model_order_67) hS (fun H locs hP hS => ?_)
      refine lv_aload_n hx hb d_Model_order_70 rfl (lv_at hl 0 rfl) ?_
      refine lv_iload_n hx hb d_Model_order_71 rfl (lv_at hl 2 rfl) ?_
      refine lv_iload_n hx hb d_Model_order_72 rfl (lv_at hl 3 rfl) ?_
      obtain ⟨q73, hq73, hM⟩ := gb_some hM
      refine g_backI (g_runV (As := [.int y45_1.2.1, .int y45_1.2.2.1]) C hP (c_Model_digit C.2.2.2.2.2.2.2.2.1 hq73) gi_Model_digit gm_Model_89 rfl rfl (by decide) (by decide) hl.1 rfl (Nat.le_of_ble_eq_true rfl) d_Model_order_73) hS (fun H locs hP hS => ?_)
      refine lv_icmp_ge (tgt := 83) hx hb d_Model_order_76 (by decide) (fun hc76 => ?_) (fun hc76 => ?_)
      · replace hM := gi_t hc76 hM
        refine lv_iconst (v := (1 : Int32)) hx hb d_Model_order_83 (by decide) ?_
        exact t_Model_order_b84 C hM hR ls H locs (lv_sub hl [] rfl) hP hS
      · replace hM := gi_f hc76 hM
        refine lv_iconst (v := (-1 : Int32)) hx hb d_Model_order_79 (by decide) ?_
        refine lv_goto (tgt := 84) hx hb d_Model_order_80 (by decide) ?_
        exact t_Model_order_b84 C hM hR ls H locs (lv_sub hl [] rfl) hP hS
  · replace hM := gi_f hc12 hM
    refine lv_aload_n hx hb d_Model_order_15 rfl (lv_at hl 0 rfl) ?_
    refine g_getR (b := 56) C hP gl_DeskModel_56 rfl rfl rfl d_Model_order_16 ?_
    refine lv_iload_n hx hb d_Model_order_19 rfl (lv_at hl 1 rfl) ?_
    obtain ⟨hi20, hM⟩ := gc_some hM
    refine g_iald C hP rfl hi20 d_Model_order_20 ?_
    refine lv_aload_n hx hb d_Model_order_21 rfl (lv_at hl 0 rfl) ?_
    refine g_getR (b := 56) C hP gl_DeskModel_56 rfl rfl rfl d_Model_order_22 ?_
    refine lv_iload_n hx hb d_Model_order_25 rfl (lv_at hl 2 rfl) ?_
    obtain ⟨hi26, hM⟩ := gc_some hM
    refine g_iald C hP rfl hi26 d_Model_order_26 ?_
    refine lv_icmp_ge (tgt := 34) hx hb d_Model_order_27 (by decide) (fun hc27 => ?_) (fun hc27 => ?_)
    · replace hM := gi_t hc27 hM
      refine lv_iconst (v := (1 : Int32)) hx hb d_Model_order_34 (by decide) ?_
      exact t_Model_order_b35 C hM hR ls H locs (lv_sub hl [] rfl) hP hS
    · replace hM := gi_f hc27 hM
      refine lv_iconst (v := (-1 : Int32)) hx hb d_Model_order_30 (by decide) ?_
      refine lv_goto (tgt := 35) hx hb d_Model_order_31 (by decide) ?_
      exact t_Model_order_b35 C hM hR ls H locs (lv_sub hl [] rfl) hP hS
theorem c_Model_order {l : Launch} {cy : Nat → ClassId} {D : va_G} {ρ : Nat → Nat} {A : Nat → Prop} (hD : gD ρ A) {x1 : Int32} {x2 : Int32} {u : gSt} {z : (Int32 × gSt)} (hM : M_Model_order x1 x2 u = some z) : gCtI l y_Model_order prog_13_method_8_code 4 (some .int) 1 22 cy D ρ A [.ref (ρ 42), .int x1, .int x2] u z.1 z.2 :=
  g_met (by decide) hD (Nat.le_of_ble_eq_true rfl) (fun p e s m below meth c ls X hl hP => t_Model_order X hM (fun pc ls H locs hd hP hS => g_iret X hP hS hd) ls _ [] hl hP va_S.rf)
end
section
variable {p : Program} {l : Launch} {e : Env} {R : Room} {s : State} {m : MethodId} {args : Array Value} {below : List Frame} {meth : Method} {c : Code} {Q : State → Prop} {H0 : Heap} {cells slots : Nat} {cy : Nat → ClassId} {D : va_G} {ρ : Nat → Nat} {A : Nat → Prop}
def y_Model_grow : MethodName := ⟨"TermDeskModel", "grow", "(IJJ)V"⟩
theorem gi_Model_grow : gMi y_Model_grow prog_13_method_9_code 9 none 3 8 := ⟨(gWs_at 1313 (by decide +kernel) (by decide +kernel)), (gWs_at 1312 (by decide +kernel) (by decide +kernel)), (gWs_at 94 (by decide +kernel) (by decide +kernel)), (gWs_at 125 (by decide +kernel) (by decide +kernel)), ⟨by decide +kernel, by decide +kernel, by decide +kernel⟩, _, _, rfl⟩
theorem gm_Model_104 : gMk "TermDeskModel" 104 y_Model_grow := Or.inl (gWs_at 1310 (by decide +kernel) (by decide +kernel))
theorem d_Model_grow_0 : decode prog_13_method_9_code 0 = .ok (.lload 4, 2) := by decide +kernel
theorem d_Model_grow_2 : decode prog_13_method_9_code 2 = .ok (.lstore 6, 2) := by decide +kernel
theorem d_Model_grow_4 : decode prog_13_method_9_code 4 = .ok (.iconst 0, 1) := by decide +kernel
theorem d_Model_grow_5 : decode prog_13_method_9_code 5 = .ok (.istore 8, 2) := by decide +kernel
theorem d_Model_grow_7 : decode prog_13_method_9_code 7 = .ok (.iload 8, 2) := by decide +kernel
theorem d_Model_grow_9 : decode prog_13_method_9_code 9 = .ok (.aload_n 0, 1) := by decide +kernel
theorem d_Model_grow_10 : decode prog_13_method_9_code 10 = .ok (.getfield 56, 3) := by decide +kernel
theorem d_Model_grow_13 : decode prog_13_method_9_code 13 = .ok (.iload_n 1, 1) := by decide +kernel
theorem d_Model_grow_14 : decode prog_13_method_9_code 14 = .ok (.iaload, 1) := by decide +kernel
theorem d_Model_grow_15 : decode prog_13_method_9_code 15 = .ok (.if_icmp .lt 10, 3) := by decide +kernel
theorem d_Model_grow_18 : decode prog_13_method_9_code 18 = .ok (.lload 6, 2) := by decide +kernel
theorem d_Model_grow_20 : decode prog_13_method_9_code 20 = .ok (.lconst 0, 1) := by decide +kernel
theorem d_Model_grow_21 : decode prog_13_method_9_code 21 = .ok (.lcmp, 1) := by decide +kernel
theorem d_Model_grow_22 : decode prog_13_method_9_code 22 = .ok (.ifCond .le 82, 3) := by decide +kernel
theorem d_Model_grow_25 : decode prog_13_method_9_code 25 = .ok (.lload 6, 2) := by decide +kernel
theorem d_Model_grow_27 : decode prog_13_method_9_code 27 = .ok (.lload_n 2, 1) := by decide +kernel
theorem d_Model_grow_28 : decode prog_13_method_9_code 28 = .ok (.aload_n 0, 1) := by decide +kernel
theorem d_Model_grow_29 : decode prog_13_method_9_code 29 = .ok (.iload_n 1, 1) := by decide +kernel
theorem d_Model_grow_30 : decode prog_13_method_9_code 30 = .ok (.iload 8, 2) := by decide +kernel
theorem d_Model_grow_32 : decode prog_13_method_9_code 32 = .ok (.invokevirtual 89, 3) := by decide +kernel
theorem d_Model_grow_35 : decode prog_13_method_9_code 35 = .ok (.i2l, 1) := by decide +kernel
theorem d_Model_grow_36 : decode prog_13_method_9_code 36 = .ok (.lmul, 1) := by decide +kernel
theorem d_Model_grow_37 : decode prog_13_method_9_code 37 = .ok (.ladd, 1) := by decide +kernel
theorem d_Model_grow_38 : decode prog_13_method_9_code 38 = .ok (.lstore 6, 2) := by decide +kernel
theorem d_Model_grow_40 : decode prog_13_method_9_code 40 = .ok (.aload_n 0, 1) := by decide +kernel
theorem d_Model_grow_41 : decode prog_13_method_9_code 41 = .ok (.getfield 53, 3) := by decide +kernel
theorem d_Model_grow_44 : decode prog_13_method_9_code 44 = .ok (.bipush 48, 2) := by decide +kernel
theorem d_Model_grow_46 : decode prog_13_method_9_code 46 = .ok (.iload_n 1, 1) := by decide +kernel
theorem d_Model_grow_47 : decode prog_13_method_9_code 47 = .ok (.imul, 1) := by decide +kernel
theorem d_Model_grow_48 : decode prog_13_method_9_code 48 = .ok (.iload 8, 2) := by decide +kernel
theorem d_Model_grow_50 : decode prog_13_method_9_code 50 = .ok (.iadd, 1) := by decide +kernel
theorem d_Model_grow_51 : decode prog_13_method_9_code 51 = .ok (.lload 6, 2) := by decide +kernel
theorem d_Model_grow_53 : decode prog_13_method_9_code 53 = .ok (.ldc2_w 93, 3) := by decide +kernel
theorem d_Model_grow_56 : decode prog_13_method_9_code 56 = .ok (.land, 1) := by decide +kernel
theorem d_Model_grow_57 : decode prog_13_method_9_code 57 = .ok (.l2i, 1) := by decide +kernel
theorem d_Model_grow_58 : decode prog_13_method_9_code 58 = .ok (.iastore, 1) := by decide +kernel
theorem d_Model_grow_59 : decode prog_13_method_9_code 59 = .ok (.aload_n 0, 1) := by decide +kernel
theorem d_Model_grow_60 : decode prog_13_method_9_code 60 = .ok (.getfield 56, 3) := by decide +kernel
theorem d_Model_grow_63 : decode prog_13_method_9_code 63 = .ok (.iload_n 1, 1) := by decide +kernel
theorem d_Model_grow_64 : decode prog_13_method_9_code 64 = .ok (.iload 8, 2) := by decide +kernel
theorem d_Model_grow_66 : decode prog_13_method_9_code 66 = .ok (.iconst 1, 1) := by decide +kernel
theorem d_Model_grow_67 : decode prog_13_method_9_code 67 = .ok (.iadd, 1) := by decide +kernel
theorem d_Model_grow_68 : decode prog_13_method_9_code 68 = .ok (.aload_n 0, 1) := by decide +kernel
theorem d_Model_grow_69 : decode prog_13_method_9_code 69 = .ok (.getfield 56, 3) := by decide +kernel
theorem d_Model_grow_72 : decode prog_13_method_9_code 72 = .ok (.iload_n 1, 1) := by decide +kernel
theorem d_Model_grow_73 : decode prog_13_method_9_code 73 = .ok (.iaload, 1) := by decide +kernel
theorem d_Model_grow_74 : decode prog_13_method_9_code 74 = .ok (.if_icmp .le 10, 3) := by decide +kernel
theorem d_Model_grow_77 : decode prog_13_method_9_code 77 = .ok (.iload 8, 2) := by decide +kernel
theorem d_Model_grow_79 : decode prog_13_method_9_code 79 = .ok (.iconst 1, 1) := by decide +kernel
theorem d_Model_grow_80 : decode prog_13_method_9_code 80 = .ok (.iadd, 1) := by decide +kernel
theorem d_Model_grow_81 : decode prog_13_method_9_code 81 = .ok (.goto 9, 3) := by decide +kernel
theorem d_Model_grow_84 : decode prog_13_method_9_code 84 = .ok (.aload_n 0, 1) := by decide +kernel
theorem d_Model_grow_85 : decode prog_13_method_9_code 85 = .ok (.getfield 56, 3) := by decide +kernel
theorem d_Model_grow_88 : decode prog_13_method_9_code 88 = .ok (.iload_n 1, 1) := by decide +kernel
theorem d_Model_grow_89 : decode prog_13_method_9_code 89 = .ok (.iaload, 1) := by decide +kernel
theorem d_Model_grow_90 : decode prog_13_method_9_code 90 = .ok (.iastore, 1) := by decide +kernel
theorem d_Model_grow_91 : decode prog_13_method_9_code 91 = .ok (.lload 6, 2) := by decide +kernel
theorem d_Model_grow_93 : decode prog_13_method_9_code 93 = .ok (.bipush 15, 2) := by decide +kernel
theorem d_Model_grow_95 : decode prog_13_method_9_code 95 = .ok (.lshr, 1) := by decide +kernel
theorem d_Model_grow_96 : decode prog_13_method_9_code 96 = .ok (.lstore 6, 2) := by decide +kernel
theorem d_Model_grow_98 : decode prog_13_method_9_code 98 = .ok (.iinc 8 1, 3) := by decide +kernel
theorem d_Model_grow_101 : decode prog_13_method_9_code 101 = .ok (.goto (-94), 3) := by decide +kernel
theorem d_Model_grow_104 : decode prog_13_method_9_code 104 = .ok (.aload_n 0, 1) := by decide +kernel
theorem d_Model_grow_105 : decode prog_13_method_9_code 105 = .ok (.iload_n 1, 1) := by decide +kernel
theorem d_Model_grow_106 : decode prog_13_method_9_code 106 = .ok (.invokevirtual 95, 3) := by decide +kernel
theorem d_Model_grow_109 : decode prog_13_method_9_code 109 = .ok (.return_, 1) := by decide +kernel
noncomputable def M_Model_grow_b90 (x1 : Int32) (y2 : Int64) (y6 : Int64) (x8 : Int32) (s0 : Int32) (s1 : Int32) (s2 : Nat) (u : gSt) : Option ((Int32 × Int64 × Int64 × Int32 × gSt) ⊕ ((Int32 × gSt))) :=
  gc (gK s2 == 22) <| gc (gIn s1 (gLen s2)) <| (some (gsA u s2 (gIx s1) s0)).bind fun u90 =>
  some (.inl (x1, y2, y6 >>> ((15 : Int32).toInt64 &&& (63 : Int64)), x8 + (1 : Int32), u90))
set_option maxHeartbeats 4000000 in
set_option maxRecDepth 100000 in
theorem t_Model_grow_b90 (C : gX "TermDeskModel" prog_13_method_9_code 9 none 1 22 R cells slots cy D ρ A p s m args meth c) {x1 : Int32} {y2 : Int64} {y6 : Int64} {x8 : Int32} {s0 : Int32} {s1 : Int32} {s2 : Nat} {u : gSt} {z : (Int32 × Int64 × Int64 × Int32 × gSt) ⊕ ((Int32 × gSt))} (hM : M_Model_grow_b90 x1 y2 y6 x8 s0 s1 s2 u = some z) (hN : ∀ x1' y2' y6' x8' u', z = .inl (x1', y2', y6', x8', u') → gAt p l e R s m args below meth c Q H0 cells slots cy D ρ A 9 7 [(0, .ref (ρ 42)), (1, .int (x1')), (2, .long (y2')), (6, .long (y6')), (8, .int (x8'))] [] (u')) (hE0 : ∀ x1' u', z = .inr (x1', u') → gAt p l e R s m args below meth c Q H0 cells slots cy D ρ A 9 104 [(0, .ref (ρ 42)), (1, .int (x1'))] [] (u')) : gAt p l e R s m args below meth c Q H0 cells slots cy D ρ A 9 90 [(0, .ref (ρ 42)), (1, .int x1), (2, .long y2), (6, .long y6), (8, .int x8)] [.int s0, .int s1, .ref (ρ s2)] u := by
  intro ls H locs hl hP hS
  have hx := C.1
  have hb := C.2.1
  unfold M_Model_grow_b90 at hM
  obtain ⟨h90, hM⟩ := gc_some hM
  obtain ⟨hi90, hM⟩ := gc_some hM
  obtain ⟨u90, e90, hM⟩ := gb_some hM
  refine g_iast C hP hS (eq_of_beq h90) hi90 d_Model_grow_90 (fun H locs hP hS => ?_)
  rw [Option.some.inj e90] at hP
  refine lv_lload hx hb d_Model_grow_91 (lv_at hl 3 rfl) ?_
  refine lv_bipush (v := (15 : Int32)) hx hb d_Model_grow_93 (by decide) ?_
  refine lv_lshr (v := y6 >>> ((15 : Int32).toInt64 &&& (63 : Int64))) hx hb d_Model_grow_95 rfl ?_
  refine lv_lstore (lv' := [(6, .long (y6 >>> ((15 : Int32).toInt64 &&& (63 : Int64)))), (0, .ref (ρ 42)), (1, .int x1), (2, .long y2), (8, .int x8)]) hx hb d_Model_grow_96 hl (by decide) rfl (fun ls hl => ?_)
  refine lv_iinc (k := 4) (v := x8 + (1 : Int32)) (lv' := [(8, .int (x8 + (1 : Int32))), (6, .long (y6 >>> ((15 : Int32).toInt64 &&& (63 : Int64)))), (0, .ref (ρ 42)), (1, .int x1), (2, .long y2)]) hx hb d_Model_grow_98 hl rfl (congrArg (fun z => x8 + z) (by decide)) (by decide) rfl (fun ls hl => ?_)
  refine lv_goto (tgt := 7) hx hb d_Model_grow_101 (by decide) ?_
  exact hN _ _ _ _ _ (Option.some.inj hM).symm ls H locs (lv_sub hl [2, 3, 4, 1, 0] rfl) hP hS
noncomputable def M_Model_grow_b25 (x1 : Int32) (y2 : Int64) (y6 : Int64) (x8 : Int32) (u : gSt) : Option ((Int32 × Int64 × Int64 × Int32 × gSt) ⊕ ((Int32 × gSt))) :=
  (M_Model_digit x1 x8 u).bind fun q32 =>
  gc (gIn (((48 : Int32) * x1) + x8) (gLen 55)) <| (some (gsA q32.2 55 (gIx (((48 : Int32) * x1) + x8)) (((y6 + (y2 * q32.1.toInt64)) &&& (32767 : Int64)).toInt32))).bind fun u58 =>
  gc (gIn x1 (gLen 56)) <| if (x8 + (1 : Int32)) ≤ (u58.2.2.1 56 (gIx x1)) then
    (gc (gIn x1 (gLen 56)) <| M_Model_grow_b90 x1 y2 (y6 + (y2 * q32.1.toInt64)) x8 (u58.2.2.1 56 (gIx x1)) x1 56 u58)
  else
    (M_Model_grow_b90 x1 y2 (y6 + (y2 * q32.1.toInt64)) x8 (x8 + (1 : Int32)) x1 56 u58)
set_option maxHeartbeats 4000000 in
set_option maxRecDepth 100000 in
theorem t_Model_grow_b25 (C : gX "TermDeskModel" prog_13_method_9_code 9 none 1 22 R cells slots cy D ρ A p s m args meth c) {x1 : Int32} {y2 : Int64} {y6 : Int64} {x8 : Int32} {u : gSt} {z : (Int32 × Int64 × Int64 × Int32 × gSt) ⊕ ((Int32 × gSt))} (hM : M_Model_grow_b25 x1 y2 y6 x8 u = some z) (hN : ∀ x1' y2' y6' x8' u', z = .inl (x1', y2', y6', x8', u') → gAt p l e R s m args below meth c Q H0 cells slots cy D ρ A 9 7 [(0, .ref (ρ 42)), (1, .int (x1')), (2, .long (y2')), (6, .long (y6')), (8, .int (x8'))] [] (u')) (hE0 : ∀ x1' u', z = .inr (x1', u') → gAt p l e R s m args below meth c Q H0 cells slots cy D ρ A 9 104 [(0, .ref (ρ 42)), (1, .int (x1'))] [] (u')) : gAt p l e R s m args below meth c Q H0 cells slots cy D ρ A 9 25 [(0, .ref (ρ 42)), (1, .int x1), (2, .long y2), (6, .long y6), (8, .int x8)] [] u := by
  intro ls H locs hl hP hS
  have hx := C.1
  have hb := C.2.1
  unfold M_Model_grow_b25 at hM
  refine lv_lload hx hb d_Model_grow_25 (lv_at hl 3 rfl) ?_
  refine lv_lload_n hx hb d_Model_grow_27 rfl (lv_at hl 2 rfl) ?_
  refine lv_aload_n hx hb d_Model_grow_28 rfl (lv_at hl 0 rfl) ?_
  refine lv_iload_n hx hb d_Model_grow_29 rfl (lv_at hl 1 rfl) ?_
  refine lv_iload hx hb d_Model_grow_30 (lv_at hl 4 rfl) ?_
  obtain ⟨q32, hq32, hM⟩ := gb_some hM
  refine g_backI (g_runV (As := [.int x1, .int x8]) C hP (c_Model_digit C.2.2.2.2.2.2.2.2.1 hq32) gi_Model_digit gm_Model_89 rfl rfl (by decide) (by decide) hl.1 rfl (Nat.le_of_ble_eq_true rfl) d_Model_grow_32) hS (fun H locs hP hS => ?_)
  refine lv_i2l (v := q32.1.toInt64) hx hb d_Model_grow_35 rfl ?_
  refine lv_lmul hx hb d_Model_grow_36 ?_
  refine lv_ladd hx hb d_Model_grow_37 ?_
  refine lv_lstore (lv' := [(6, .long (y6 + (y2 * q32.1.toInt64))), (0, .ref (ρ 42)), (1, .int x1), (2, .long y2), (8, .int x8)]) hx hb d_Model_grow_38 hl (by decide) rfl (fun ls hl => ?_)
  refine lv_aload_n hx hb d_Model_grow_40 rfl (lv_at hl 1 rfl) ?_
  refine g_getR (b := 55) C hP gl_DeskModel_53 rfl rfl rfl d_Model_grow_41 ?_
  refine lv_bipush (v := (48 : Int32)) hx hb d_Model_grow_44 (by decide) ?_
  refine lv_iload_n hx hb d_Model_grow_46 rfl (lv_at hl 2 rfl) ?_
  refine lv_imul hx hb d_Model_grow_47 ?_
  refine lv_iload hx hb d_Model_grow_48 (lv_at hl 4 rfl) ?_
  refine lv_iadd hx hb d_Model_grow_50 ?_
  refine lv_lload hx hb d_Model_grow_51 (lv_at hl 0 rfl) ?_
  refine lv_ldc2 (v := 32767) hx hb C.2.2.2.2.1 (C.2.2.2.2.2.1 _ (gWs_at 1318 (by decide +kernel) (by decide +kernel))) d_Model_grow_53 ?_
  refine lv_land hx hb d_Model_grow_56 ?_
  refine lv_l2i (v := ((y6 + (y2 * q32.1.toInt64)) &&& (32767 : Int64)).toInt32) hx hb d_Model_grow_57 rfl ?_
  obtain ⟨hi58, hM⟩ := gc_some hM
  obtain ⟨u58, e58, hM⟩ := gb_some hM
  refine g_iast C hP hS rfl hi58 d_Model_grow_58 (fun H locs hP hS => ?_)
  rw [Option.some.inj e58] at hP
  refine lv_aload_n hx hb d_Model_grow_59 rfl (lv_at hl 1 rfl) ?_
  refine g_getR (b := 56) C hP gl_DeskModel_56 rfl rfl rfl d_Model_grow_60 ?_
  refine lv_iload_n hx hb d_Model_grow_63 rfl (lv_at hl 2 rfl) ?_
  refine lv_iload hx hb d_Model_grow_64 (lv_at hl 4 rfl) ?_
  refine lv_iconst (v := (1 : Int32)) hx hb d_Model_grow_66 (by decide) ?_
  refine lv_iadd hx hb d_Model_grow_67 ?_
  refine lv_aload_n hx hb d_Model_grow_68 rfl (lv_at hl 1 rfl) ?_
  refine g_getR (b := 56) C hP gl_DeskModel_56 rfl rfl rfl d_Model_grow_69 ?_
  refine lv_iload_n hx hb d_Model_grow_72 rfl (lv_at hl 2 rfl) ?_
  obtain ⟨hi73, hM⟩ := gc_some hM
  refine g_iald C hP rfl hi73 d_Model_grow_73 ?_
  refine lv_icmp_le (tgt := 84) hx hb d_Model_grow_74 (by decide) (fun hc74 => ?_) (fun hc74 => ?_)
  · replace hM := gi_t hc74 hM
    refine lv_aload_n hx hb d_Model_grow_84 rfl (lv_at hl 1 rfl) ?_
    refine g_getR (b := 56) C hP gl_DeskModel_56 rfl rfl rfl d_Model_grow_85 ?_
    refine lv_iload_n hx hb d_Model_grow_88 rfl (lv_at hl 2 rfl) ?_
    obtain ⟨hi89, hM⟩ := gc_some hM
    refine g_iald C hP rfl hi89 d_Model_grow_89 ?_
    exact t_Model_grow_b90 C hM hN hE0 ls H locs (lv_sub hl [1, 2, 3, 0, 4] rfl) hP hS
  · replace hM := gi_f hc74 hM
    refine lv_iload hx hb d_Model_grow_77 (lv_at hl 4 rfl) ?_
    refine lv_iconst (v := (1 : Int32)) hx hb d_Model_grow_79 (by decide) ?_
    refine lv_iadd hx hb d_Model_grow_80 ?_
    refine lv_goto (tgt := 90) hx hb d_Model_grow_81 (by decide) ?_
    exact t_Model_grow_b90 C hM hN hE0 ls H locs (lv_sub hl [1, 2, 3, 0, 4] rfl) hP hS
noncomputable def M_Model_grow_b7 (x1 : Int32) (y2 : Int64) (y6 : Int64) (x8 : Int32) (u : gSt) : Option ((Int32 × Int64 × Int64 × Int32 × gSt) ⊕ ((Int32 × gSt))) :=
  gc (gIn x1 (gLen 56)) <| if x8 < (u.2.2.1 56 (gIx x1)) then
    (M_Model_grow_b25 x1 y2 y6 x8 u)
  else
    (if (lg_cmp y6 (0 : Int64)) ≤ (0 : Int32) then
      (some (.inr (x1, u)))
    else
      (M_Model_grow_b25 x1 y2 y6 x8 u))
set_option maxHeartbeats 4000000 in
set_option maxRecDepth 100000 in
theorem t_Model_grow_b7 (C : gX "TermDeskModel" prog_13_method_9_code 9 none 1 22 R cells slots cy D ρ A p s m args meth c) {x1 : Int32} {y2 : Int64} {y6 : Int64} {x8 : Int32} {u : gSt} {z : (Int32 × Int64 × Int64 × Int32 × gSt) ⊕ ((Int32 × gSt))} (hM : M_Model_grow_b7 x1 y2 y6 x8 u = some z) (hN : ∀ x1' y2' y6' x8' u', z = .inl (x1', y2', y6', x8', u') → gAt p l e R s m args below meth c Q H0 cells slots cy D ρ A 9 7 [(0, .ref (ρ 42)), (1, .int (x1')), (2, .long (y2')), (6, .long (y6')), (8, .int (x8'))] [] (u')) (hE0 : ∀ x1' u', z = .inr (x1', u') → gAt p l e R s m args below meth c Q H0 cells slots cy D ρ A 9 104 [(0, .ref (ρ 42)), (1, .int (x1'))] [] (u')) : gAt p l e R s m args below meth c Q H0 cells slots cy D ρ A 9 7 [(0, .ref (ρ 42)), (1, .int x1), (2, .long y2), (6, .long y6), (8, .int x8)] [] u := by
  intro ls H locs hl hP hS
  have hx := C.1
  have hb := C.2.1
  unfold M_Model_grow_b7 at hM
  refine lv_iload hx hb d_Model_grow_7 (lv_at hl 4 rfl) ?_
  refine lv_aload_n hx hb d_Model_grow_9 rfl (lv_at hl 0 rfl) ?_
  refine g_getR (b := 56) C hP gl_DeskModel_56 rfl rfl rfl d_Model_grow_10 ?_
  refine lv_iload_n hx hb d_Model_grow_13 rfl (lv_at hl 1 rfl) ?_
  obtain ⟨hi14, hM⟩ := gc_some hM
  refine g_iald C hP rfl hi14 d_Model_grow_14 ?_
  refine lv_icmp_lt (tgt := 25) hx hb d_Model_grow_15 (by decide) (fun hc15 => ?_) (fun hc15 => ?_)
  · replace hM := gi_t hc15 hM
    exact t_Model_grow_b25 C hM hN hE0 ls H locs (lv_sub hl [0, 1, 2, 3, 4] rfl) hP hS
  · replace hM := gi_f hc15 hM
    refine lv_lload hx hb d_Model_grow_18 (lv_at hl 3 rfl) ?_
    refine lv_lconst (v := 0) hx hb d_Model_grow_20 (by decide) ?_
    refine W.lcmp hx hb d_Model_grow_21 ?_
    refine lv_if_le (tgt := 104) hx hb d_Model_grow_22 (by decide) (fun hc22 => ?_) (fun hc22 => ?_)
    · replace hM := gi_t hc22 hM
      exact hE0 _ _ (Option.some.inj hM).symm ls H locs (lv_sub hl [0, 1] rfl) hP hS
    · replace hM := gi_f hc22 hM
      exact t_Model_grow_b25 C hM hN hE0 ls H locs (lv_sub hl [0, 1, 2, 3, 4] rfl) hP hS
noncomputable def M_Model_grow_L7 : (Int32 × Int64 × Int64 × Int32 × gSt) → Option ((Int32 × Int64 × Int64 × Int32 × gSt) ⊕ ((Int32 × gSt))) := fun x => M_Model_grow_b7 x.1 x.2.1 x.2.2.1 x.2.2.2.1 x.2.2.2.2
theorem t_Model_grow_L7 (C : gX "TermDeskModel" prog_13_method_9_code 9 none 1 22 R cells slots cy D ρ A p s m args meth c) {x1 : Int32} {y2 : Int64} {y6 : Int64} {x8 : Int32} {u : gSt} {yy : (Int32 × gSt)} (hL : gLp M_Model_grow_L7 (x1, y2, y6, x8, u) = some yy) (hE0 : (∀ y', yy = y' → gAt p l e R s m args below meth c Q H0 cells slots cy D ρ A 9 104 [(0, .ref (ρ 42)), (1, .int (y'.1))] [] (y'.2))) : gAt p l e R s m args below meth c Q H0 cells slots cy D ρ A 9 7 [(0, .ref (ρ 42)), (1, .int x1), (2, .long y2), (6, .long y6), (8, .int x8)] [] u :=
  g_loop (f := M_Model_grow_L7) (P := fun x => gAt p l e R s m args below meth c Q H0 cells slots cy D ρ A 9 7 [(0, .ref (ρ 42)), (1, .int x.1), (2, .long x.2.1), (6, .long x.2.2.1), (8, .int x.2.2.2.1)] [] x.2.2.2.2) (E := fun yy => (∀ y', yy = y' → gAt p l e R s m args below meth c Q H0 cells slots cy D ρ A 9 104 [(0, .ref (ρ 42)), (1, .int (y'.1))] [] (y'.2))) (fun x z hf hN hE => t_Model_grow_b7 C hf (fun x1' y2' y6' x8' u' h => hN (x1', y2', y6', x8', u') h) (fun x1' u' h => (hE _ h) (x1', u') rfl)) hL hE0
noncomputable def M_Model_grow (x1 : Int32) (y2 : Int64) (y4 : Int64) (u : gSt) : Option (gSt) :=
  (gLp M_Model_grow_L7 (x1, y2, y4, (0 : Int32), u)).bind fun y7 =>
  (M_Model_trimNumber y7.1 y7.2).bind fun q106 =>
  some q106
set_option maxHeartbeats 4000000 in
set_option maxRecDepth 100000 in
theorem t_Model_grow (C : gX "TermDeskModel" prog_13_method_9_code 9 none 1 22 R cells slots cy D ρ A p s m args meth c) {x1 : Int32} {y2 : Int64} {y4 : Int64} {u : gSt} {z : gSt} (hM : M_Model_grow x1 y2 y4 u = some z) (hR : gRtV p l e R s m args below meth c Q H0 cells slots cy D ρ A prog_13_method_9_code z) : gAt p l e R s m args below meth c Q H0 cells slots cy D ρ A 9 0 [(0, .ref (ρ 42)), (1, .int x1), (2, .long y2), (4, .long y4)] [] u := by
  intro ls H locs hl hP hS
  have hx := C.1
  have hb := C.2.1
  unfold M_Model_grow at hM
  refine lv_lload hx hb d_Model_grow_0 (lv_at hl 3 rfl) ?_
  refine lv_lstore (lv' := [(6, .long y4), (0, .ref (ρ 42)), (1, .int x1), (2, .long y2), (4, .long y4)]) hx hb d_Model_grow_2 hl (by decide) rfl (fun ls hl => ?_)
  refine lv_iconst (v := (0 : Int32)) hx hb d_Model_grow_4 (by decide) ?_
  refine lv_istore (lv' := [(8, .int (0 : Int32)), (6, .long y4), (0, .ref (ρ 42)), (1, .int x1), (2, .long y2), (4, .long y4)]) hx hb d_Model_grow_5 hl (by decide) rfl (fun ls hl => ?_)
  obtain ⟨y7, hL7, hM⟩ := gb_some hM
  refine t_Model_grow_L7 C hL7 (fun y7_0 hy => ?_) ls H locs (lv_sub hl [2, 3, 4, 1, 0] rfl) hP hS
  · subst hy
    intro ls H locs hl hP hS
    refine lv_aload_n hx hb d_Model_grow_104 rfl (lv_at hl 0 rfl) ?_
    refine lv_iload_n hx hb d_Model_grow_105 rfl (lv_at hl 1 rfl) ?_
    obtain ⟨q106, hq106, hM⟩ := gb_some hM
    refine g_backV (g_runV (As := [.int y7.1]) C hP (c_Model_trimNumber C.2.2.2.2.2.2.2.2.1 hq106) gi_Model_trimNumber gm_Model_95 rfl rfl (by decide) (by decide) hl.1 rfl (Nat.le_of_ble_eq_true rfl) d_Model_grow_106) hS (fun H locs hP hS => ?_)
    obtain rfl := Option.some.inj hM
    exact hR _ ls H locs d_Model_grow_109 hP hS
theorem c_Model_grow {l : Launch} {cy : Nat → ClassId} {D : va_G} {ρ : Nat → Nat} {A : Nat → Prop} (hD : gD ρ A) {x1 : Int32} {y2 : Int64} {y4 : Int64} {u : gSt} {z : gSt} (hM : M_Model_grow x1 y2 y4 u = some z) : gCtV l y_Model_grow prog_13_method_9_code 9 none 1 22 cy D ρ A [.ref (ρ 42), .int x1, .long y2, .long y4] u z :=
  g_met (by decide) hD (Nat.le_of_ble_eq_true rfl) (fun p e s m below meth c ls X hl hP => t_Model_grow X hM (fun pc ls H locs hd hP hS => g_vret X hP hS hd) ls _ [] hl hP va_S.rf)
end
section
variable {p : Program} {l : Launch} {e : Env} {R : Room} {s : State} {m : MethodId} {args : Array Value} {below : List Frame} {meth : Method} {c : Code} {Q : State → Prop} {H0 : Heap} {cells slots : Nat} {cy : Nat → ClassId} {D : va_G} {ρ : Nat → Nat} {A : Nat → Prop}
def y_Model_lower : MethodName := ⟨"TermDeskModel", "lower", "(II)V"⟩
theorem gi_Model_lower : gMi y_Model_lower prog_13_method_10_code 6 none 2 8 := ⟨(gWs_at 1326 (by decide +kernel) (by decide +kernel)), (gWs_at 1325 (by decide +kernel) (by decide +kernel)), (gWs_at 97 (by decide +kernel) (by decide +kernel)), (gWs_at 125 (by decide +kernel) (by decide +kernel)), ⟨by decide +kernel, by decide +kernel, by decide +kernel⟩, _, _, rfl⟩
theorem gm_Model_127 : gMk "TermDeskModel" 127 y_Model_lower := Or.inl (gWs_at 1323 (by decide +kernel) (by decide +kernel))
theorem d_Model_lower_0 : decode prog_13_method_10_code 0 = .ok (.lconst 0, 1) := by decide +kernel
theorem d_Model_lower_1 : decode prog_13_method_10_code 1 = .ok (.lstore_n 3, 1) := by decide +kernel
theorem d_Model_lower_2 : decode prog_13_method_10_code 2 = .ok (.aload_n 0, 1) := by decide +kernel
theorem d_Model_lower_3 : decode prog_13_method_10_code 3 = .ok (.getfield 56, 3) := by decide +kernel
theorem d_Model_lower_6 : decode prog_13_method_10_code 6 = .ok (.iload_n 1, 1) := by decide +kernel
theorem d_Model_lower_7 : decode prog_13_method_10_code 7 = .ok (.iaload, 1) := by decide +kernel
theorem d_Model_lower_8 : decode prog_13_method_10_code 8 = .ok (.iconst 1, 1) := by decide +kernel
theorem d_Model_lower_9 : decode prog_13_method_10_code 9 = .ok (.isub, 1) := by decide +kernel
theorem d_Model_lower_10 : decode prog_13_method_10_code 10 = .ok (.istore 5, 2) := by decide +kernel
theorem d_Model_lower_12 : decode prog_13_method_10_code 12 = .ok (.iload 5, 2) := by decide +kernel
theorem d_Model_lower_14 : decode prog_13_method_10_code 14 = .ok (.ifCond .lt 45, 3) := by decide +kernel
theorem d_Model_lower_17 : decode prog_13_method_10_code 17 = .ok (.lload_n 3, 1) := by decide +kernel
theorem d_Model_lower_18 : decode prog_13_method_10_code 18 = .ok (.bipush 15, 2) := by decide +kernel
theorem d_Model_lower_20 : decode prog_13_method_10_code 20 = .ok (.lshl, 1) := by decide +kernel
theorem d_Model_lower_21 : decode prog_13_method_10_code 21 = .ok (.aload_n 0, 1) := by decide +kernel
theorem d_Model_lower_22 : decode prog_13_method_10_code 22 = .ok (.iload_n 1, 1) := by decide +kernel
theorem d_Model_lower_23 : decode prog_13_method_10_code 23 = .ok (.iload 5, 2) := by decide +kernel
theorem d_Model_lower_25 : decode prog_13_method_10_code 25 = .ok (.invokevirtual 89, 3) := by decide +kernel
theorem d_Model_lower_28 : decode prog_13_method_10_code 28 = .ok (.i2l, 1) := by decide +kernel
theorem d_Model_lower_29 : decode prog_13_method_10_code 29 = .ok (.ladd, 1) := by decide +kernel
theorem d_Model_lower_30 : decode prog_13_method_10_code 30 = .ok (.lstore_n 3, 1) := by decide +kernel
theorem d_Model_lower_31 : decode prog_13_method_10_code 31 = .ok (.aload_n 0, 1) := by decide +kernel
theorem d_Model_lower_32 : decode prog_13_method_10_code 32 = .ok (.getfield 53, 3) := by decide +kernel
theorem d_Model_lower_35 : decode prog_13_method_10_code 35 = .ok (.bipush 48, 2) := by decide +kernel
theorem d_Model_lower_37 : decode prog_13_method_10_code 37 = .ok (.iload_n 1, 1) := by decide +kernel
theorem d_Model_lower_38 : decode prog_13_method_10_code 38 = .ok (.imul, 1) := by decide +kernel
theorem d_Model_lower_39 : decode prog_13_method_10_code 39 = .ok (.iload 5, 2) := by decide +kernel
theorem d_Model_lower_41 : decode prog_13_method_10_code 41 = .ok (.iadd, 1) := by decide +kernel
theorem d_Model_lower_42 : decode prog_13_method_10_code 42 = .ok (.lload_n 3, 1) := by decide +kernel
theorem d_Model_lower_43 : decode prog_13_method_10_code 43 = .ok (.iload_n 2, 1) := by decide +kernel
theorem d_Model_lower_44 : decode prog_13_method_10_code 44 = .ok (.i2l, 1) := by decide +kernel
theorem d_Model_lower_45 : decode prog_13_method_10_code 45 = .ok (.ldiv, 1) := by decide +kernel
theorem d_Model_lower_46 : decode prog_13_method_10_code 46 = .ok (.l2i, 1) := by decide +kernel
theorem d_Model_lower_47 : decode prog_13_method_10_code 47 = .ok (.iastore, 1) := by decide +kernel
theorem d_Model_lower_48 : decode prog_13_method_10_code 48 = .ok (.lload_n 3, 1) := by decide +kernel
theorem d_Model_lower_49 : decode prog_13_method_10_code 49 = .ok (.iload_n 2, 1) := by decide +kernel
theorem d_Model_lower_50 : decode prog_13_method_10_code 50 = .ok (.i2l, 1) := by decide +kernel
theorem d_Model_lower_51 : decode prog_13_method_10_code 51 = .ok (.lrem, 1) := by decide +kernel
theorem d_Model_lower_52 : decode prog_13_method_10_code 52 = .ok (.lstore_n 3, 1) := by decide +kernel
theorem d_Model_lower_53 : decode prog_13_method_10_code 53 = .ok (.iinc 5 (-1), 3) := by decide +kernel
theorem d_Model_lower_56 : decode prog_13_method_10_code 56 = .ok (.goto (-44), 3) := by decide +kernel
theorem d_Model_lower_59 : decode prog_13_method_10_code 59 = .ok (.aload_n 0, 1) := by decide +kernel
theorem d_Model_lower_60 : decode prog_13_method_10_code 60 = .ok (.lload_n 3, 1) := by decide +kernel
theorem d_Model_lower_61 : decode prog_13_method_10_code 61 = .ok (.l2i, 1) := by decide +kernel
theorem d_Model_lower_62 : decode prog_13_method_10_code 62 = .ok (.putfield 99, 3) := by decide +kernel
theorem d_Model_lower_65 : decode prog_13_method_10_code 65 = .ok (.aload_n 0, 1) := by decide +kernel
theorem d_Model_lower_66 : decode prog_13_method_10_code 66 = .ok (.iload_n 1, 1) := by decide +kernel
theorem d_Model_lower_67 : decode prog_13_method_10_code 67 = .ok (.invokevirtual 95, 3) := by decide +kernel
theorem d_Model_lower_70 : decode prog_13_method_10_code 70 = .ok (.return_, 1) := by decide +kernel
noncomputable def M_Model_lower_b12 (x1 : Int32) (x2 : Int32) (y3 : Int64) (x5 : Int32) (u : gSt) : Option ((Int32 × Int32 × Int64 × Int32 × gSt) ⊕ ((Int32 × Int64 × gSt))) :=
  if x5 < (0 : Int32) then
    (some (.inr (x1, y3, u)))
  else
    ((M_Model_digit x1 x5 u).bind fun q25 =>
    gc (!(x2.toInt64 == 0)) <| gc (gIn (((48 : Int32) * x1) + x5) (gLen 55)) <| (some (gsA q25.2 55 (gIx (((48 : Int32) * x1) + x5)) ((((y3 <<< ((15 : Int32).toInt64 &&& (63 : Int64))) + q25.1.toInt64) / x2.toInt64).toInt32))).bind fun u47 =>
    gc (!(x2.toInt64 == 0)) <| some (.inl (x1, x2, ((y3 <<< ((15 : Int32).toInt64 &&& (63 : Int64))) + q25.1.toInt64) - ((y3 <<< ((15 : Int32).toInt64 &&& (63 : Int64))) + q25.1.toInt64) / x2.toInt64 * x2.toInt64, x5 + (-1 : Int32), u47)))
set_option maxHeartbeats 4000000 in
set_option maxRecDepth 100000 in
theorem t_Model_lower_b12 (C : gX "TermDeskModel" prog_13_method_10_code 6 none 1 22 R cells slots cy D ρ A p s m args meth c) {x1 : Int32} {x2 : Int32} {y3 : Int64} {x5 : Int32} {u : gSt} {z : (Int32 × Int32 × Int64 × Int32 × gSt) ⊕ ((Int32 × Int64 × gSt))} (hM : M_Model_lower_b12 x1 x2 y3 x5 u = some z) (hN : ∀ x1' x2' y3' x5' u', z = .inl (x1', x2', y3', x5', u') → gAt p l e R s m args below meth c Q H0 cells slots cy D ρ A 6 12 [(0, .ref (ρ 42)), (1, .int (x1')), (2, .int (x2')), (3, .long (y3')), (5, .int (x5'))] [] (u')) (hE0 : ∀ x1' y3' u', z = .inr (x1', y3', u') → gAt p l e R s m args below meth c Q H0 cells slots cy D ρ A 6 59 [(0, .ref (ρ 42)), (1, .int (x1')), (3, .long (y3'))] [] (u')) : gAt p l e R s m args below meth c Q H0 cells slots cy D ρ A 6 12 [(0, .ref (ρ 42)), (1, .int x1), (2, .int x2), (3, .long y3), (5, .int x5)] [] u := by
  intro ls H locs hl hP hS
  have hx := C.1
  have hb := C.2.1
  unfold M_Model_lower_b12 at hM
  refine lv_iload hx hb d_Model_lower_12 (lv_at hl 4 rfl) ?_
  refine lv_if_lt (tgt := 59) hx hb d_Model_lower_14 (by decide) (fun hc14 => ?_) (fun hc14 => ?_)
  · replace hM := gi_t hc14 hM
    exact hE0 _ _ _ (Option.some.inj hM).symm ls H locs (lv_sub hl [0, 1, 3] rfl) hP hS
  · replace hM := gi_f hc14 hM
    refine lv_lload_n hx hb d_Model_lower_17 rfl (lv_at hl 3 rfl) ?_
    refine lv_bipush (v := (15 : Int32)) hx hb d_Model_lower_18 (by decide) ?_
    refine lv_lshl (v := y3 <<< ((15 : Int32).toInt64 &&& (63 : Int64))) hx hb d_Model_lower_20 rfl ?_
    refine lv_aload_n hx hb d_Model_lower_21 rfl (lv_at hl 0 rfl) ?_
    refine lv_iload_n hx hb d_Model_lower_22 rfl (lv_at hl 1 rfl) ?_
    refine lv_iload hx hb d_Model_lower_23 (lv_at hl 4 rfl) ?_
    obtain ⟨q25, hq25, hM⟩ := gb_some hM
    refine g_backI (g_runV (As := [.int x1, .int x5]) C hP (c_Model_digit C.2.2.2.2.2.2.2.2.1 hq25) gi_Model_digit gm_Model_89 rfl rfl (by decide) (by decide) hl.1 rfl (Nat.le_of_ble_eq_true rfl) d_Model_lower_25) hS (fun H locs hP hS => ?_)
    refine lv_i2l (v := q25.1.toInt64) hx hb d_Model_lower_28 rfl ?_
    refine lv_ladd hx hb d_Model_lower_29 ?_
    refine lv_lstore_n (lv' := [(3, .long ((y3 <<< ((15 : Int32).toInt64 &&& (63 : Int64))) + q25.1.toInt64)), (0, .ref (ρ 42)), (1, .int x1), (2, .int x2), (5, .int x5)]) hx hb d_Model_lower_30 rfl hl (by decide) rfl (fun ls hl => ?_)
    refine lv_aload_n hx hb d_Model_lower_31 rfl (lv_at hl 1 rfl) ?_
    refine g_getR (b := 55) C hP gl_DeskModel_53 rfl rfl rfl d_Model_lower_32 ?_
    refine lv_bipush (v := (48 : Int32)) hx hb d_Model_lower_35 (by decide) ?_
    refine lv_iload_n hx hb d_Model_lower_37 rfl (lv_at hl 2 rfl) ?_
    refine lv_imul hx hb d_Model_lower_38 ?_
    refine lv_iload hx hb d_Model_lower_39 (lv_at hl 4 rfl) ?_
    refine lv_iadd hx hb d_Model_lower_41 ?_
    refine lv_lload_n hx hb d_Model_lower_42 rfl (lv_at hl 0 rfl) ?_
    refine lv_iload_n hx hb d_Model_lower_43 rfl (lv_at hl 3 rfl) ?_
    refine lv_i2l (v := x2.toInt64) hx hb d_Model_lower_44 rfl ?_
    obtain ⟨h45, hM⟩ := gc_some hM
    refine lv_ldiv hx hb d_Model_lower_45 (gne0L h45) ?_
    refine lv_l2i (v := (((y3 <<< ((15 : Int32).toInt64 &&& (63 : Int64))) + q25.1.toInt64) / x2.toInt64).toInt32) hx hb d_Model_lower_46 rfl ?_
    obtain ⟨hi47, hM⟩ := gc_some hM
    obtain ⟨u47, e47, hM⟩ := gb_some hM
    refine g_iast C hP hS rfl hi47 d_Model_lower_47 (fun H locs hP hS => ?_)
    rw [Option.some.inj e47] at hP
    refine lv_lload_n hx hb d_Model_lower_48 rfl (lv_at hl 0 rfl) ?_
    refine lv_iload_n hx hb d_Model_lower_49 rfl (lv_at hl 3 rfl) ?_
    refine lv_i2l (v := x2.toInt64) hx hb d_Model_lower_50 rfl ?_
    obtain ⟨h51, hM⟩ := gc_some hM
    refine lv_lrem hx hb d_Model_lower_51 (gne0L h51) ?_
    refine lv_lstore_n (lv' := [(3, .long (((y3 <<< ((15 : Int32).toInt64 &&& (63 : Int64))) + q25.1.toInt64) - ((y3 <<< ((15 : Int32).toInt64 &&& (63 : Int64))) + q25.1.toInt64) / x2.toInt64 * x2.toInt64)), (0, .ref (ρ 42)), (1, .int x1), (2, .int x2), (5, .int x5)]) hx hb d_Model_lower_52 rfl hl (by decide) rfl (fun ls hl => ?_)
    refine lv_iinc (k := 4) (v := x5 + (-1 : Int32)) (lv' := [(5, .int (x5 + (-1 : Int32))), (3, .long (((y3 <<< ((15 : Int32).toInt64 &&& (63 : Int64))) + q25.1.toInt64) - ((y3 <<< ((15 : Int32).toInt64 &&& (63 : Int64))) + q25.1.toInt64) / x2.toInt64 * x2.toInt64)), (0, .ref (ρ 42)), (1, .int x1), (2, .int x2)]) hx hb d_Model_lower_53 hl rfl (congrArg (fun z => x5 + z) (by decide)) (by decide) rfl (fun ls hl => ?_)
    refine lv_goto (tgt := 12) hx hb d_Model_lower_56 (by decide) ?_
    exact hN _ _ _ _ _ (Option.some.inj hM).symm ls H locs (lv_sub hl [2, 3, 4, 1, 0] rfl) hP hS
noncomputable def M_Model_lower_L12 : (Int32 × Int32 × Int64 × Int32 × gSt) → Option ((Int32 × Int32 × Int64 × Int32 × gSt) ⊕ ((Int32 × Int64 × gSt))) := fun x => M_Model_lower_b12 x.1 x.2.1 x.2.2.1 x.2.2.2.1 x.2.2.2.2
theorem t_Model_lower_L12 (C : gX "TermDeskModel" prog_13_method_10_code 6 none 1 22 R cells slots cy D ρ A p s m args meth c) {x1 : Int32} {x2 : Int32} {y3 : Int64} {x5 : Int32} {u : gSt} {yy : (Int32 × Int64 × gSt)} (hL : gLp M_Model_lower_L12 (x1, x2, y3, x5, u) = some yy) (hE0 : (∀ y', yy = y' → gAt p l e R s m args below meth c Q H0 cells slots cy D ρ A 6 59 [(0, .ref (ρ 42)), (1, .int (y'.1)), (3, .long (y'.2.1))] [] (y'.2.2))) : gAt p l e R s m args below meth c Q H0 cells slots cy D ρ A 6 12 [(0, .ref (ρ 42)), (1, .int x1), (2, .int x2), (3, .long y3), (5, .int x5)] [] u :=
  g_loop (f := M_Model_lower_L12) (P := fun x => gAt p l e R s m args below meth c Q H0 cells slots cy D ρ A 6 12 [(0, .ref (ρ 42)), (1, .int x.1), (2, .int x.2.1), (3, .long x.2.2.1), (5, .int x.2.2.2.1)] [] x.2.2.2.2) (E := fun yy => (∀ y', yy = y' → gAt p l e R s m args below meth c Q H0 cells slots cy D ρ A 6 59 [(0, .ref (ρ 42)), (1, .int (y'.1)), (3, .long (y'.2.1))] [] (y'.2.2))) (fun x z hf hN hE => t_Model_lower_b12 C hf (fun x1' x2' y3' x5' u' h => hN (x1', x2', y3', x5', u') h) (fun x1' y3' u' h => (hE _ h) (x1', y3', u') rfl)) hL hE0
noncomputable def M_Model_lower (x1 : Int32) (x2 : Int32) (u : gSt) : Option (gSt) :=
  gc (gIn x1 (gLen 56)) <| (gLp M_Model_lower_L12 (x1, x2, (0 : Int64), (u.2.2.1 56 (gIx x1)) - (1 : Int32), u)).bind fun y12 =>
  (some (gsF y12.2.2 42 28 y12.2.1.toInt32)).bind fun u62 =>
  (M_Model_trimNumber y12.1 u62).bind fun q67 =>
  some q67
set_option maxHeartbeats 4000000 in
set_option maxRecDepth 100000 in
theorem t_Model_lower (C : gX "TermDeskModel" prog_13_method_10_code 6 none 1 22 R cells slots cy D ρ A p s m args meth c) {x1 : Int32} {x2 : Int32} {u : gSt} {z : gSt} (hM : M_Model_lower x1 x2 u = some z) (hR : gRtV p l e R s m args below meth c Q H0 cells slots cy D ρ A prog_13_method_10_code z) : gAt p l e R s m args below meth c Q H0 cells slots cy D ρ A 6 0 [(0, .ref (ρ 42)), (1, .int x1), (2, .int x2)] [] u := by
  intro ls H locs hl hP hS
  have hx := C.1
  have hb := C.2.1
  unfold M_Model_lower at hM
  refine lv_lconst (v := 0) hx hb d_Model_lower_0 (by decide) ?_
  refine lv_lstore_n (lv' := [(3, .long (0 : Int64)), (0, .ref (ρ 42)), (1, .int x1), (2, .int x2)]) hx hb d_Model_lower_1 rfl hl (by decide) rfl (fun ls hl => ?_)
  refine lv_aload_n hx hb d_Model_lower_2 rfl (lv_at hl 1 rfl) ?_
  refine g_getR (b := 56) C hP gl_DeskModel_56 rfl rfl rfl d_Model_lower_3 ?_
  refine lv_iload_n hx hb d_Model_lower_6 rfl (lv_at hl 2 rfl) ?_
  obtain ⟨hi7, hM⟩ := gc_some hM
  refine g_iald C hP rfl hi7 d_Model_lower_7 ?_
  refine lv_iconst (v := (1 : Int32)) hx hb d_Model_lower_8 (by decide) ?_
  refine lv_isub hx hb d_Model_lower_9 ?_
  refine lv_istore (lv' := [(5, .int ((u.2.2.1 56 (gIx x1)) - (1 : Int32))), (3, .long (0 : Int64)), (0, .ref (ρ 42)), (1, .int x1), (2, .int x2)]) hx hb d_Model_lower_10 hl (by decide) rfl (fun ls hl => ?_)
  obtain ⟨y12, hL12, hM⟩ := gb_some hM
  refine t_Model_lower_L12 C hL12 (fun y12_0 hy => ?_) ls H locs (lv_sub hl [2, 3, 4, 1, 0] rfl) hP hS
  · subst hy
    intro ls H locs hl hP hS
    refine lv_aload_n hx hb d_Model_lower_59 rfl (lv_at hl 0 rfl) ?_
    refine lv_lload_n hx hb d_Model_lower_60 rfl (lv_at hl 2 rfl) ?_
    refine lv_l2i (v := y12.2.1.toInt32) hx hb d_Model_lower_61 rfl ?_
    obtain ⟨u62, e62, hM⟩ := gb_some hM
    refine g_putI C hP hS gl_DeskModel_99 rfl rfl gq_8_28 d_Model_lower_62 (fun H locs hP hS => ?_)
    rw [Option.some.inj e62] at hP
    refine lv_aload_n hx hb d_Model_lower_65 rfl (lv_at hl 0 rfl) ?_
    refine lv_iload_n hx hb d_Model_lower_66 rfl (lv_at hl 1 rfl) ?_
    obtain ⟨q67, hq67, hM⟩ := gb_some hM
    refine g_backV (g_runV (As := [.int y12.1]) C hP (c_Model_trimNumber C.2.2.2.2.2.2.2.2.1 hq67) gi_Model_trimNumber gm_Model_95 rfl rfl (by decide) (by decide) hl.1 rfl (Nat.le_of_ble_eq_true rfl) d_Model_lower_67) hS (fun H locs hP hS => ?_)
    obtain rfl := Option.some.inj hM
    exact hR _ ls H locs d_Model_lower_70 hP hS
theorem c_Model_lower {l : Launch} {cy : Nat → ClassId} {D : va_G} {ρ : Nat → Nat} {A : Nat → Prop} (hD : gD ρ A) {x1 : Int32} {x2 : Int32} {u : gSt} {z : gSt} (hM : M_Model_lower x1 x2 u = some z) : gCtV l y_Model_lower prog_13_method_10_code 6 none 1 22 cy D ρ A [.ref (ρ 42), .int x1, .int x2] u z :=
  g_met (by decide) hD (Nat.le_of_ble_eq_true rfl) (fun p e s m below meth c ls X hl hP => t_Model_lower X hM (fun pc ls H locs hd hP hS => g_vret X hP hS hd) ls _ [] hl hP va_S.rf)
end
section
variable {p : Program} {l : Launch} {e : Env} {R : Room} {s : State} {m : MethodId} {args : Array Value} {below : List Frame} {meth : Method} {c : Code} {Q : State → Prop} {H0 : Heap} {cells slots : Nat} {cy : Nat → ClassId} {D : va_G} {ρ : Nat → Nat} {A : Nat → Prop}
def y_Model_addNumber : MethodName := ⟨"TermDeskModel", "addNumber", "(III)V"⟩
theorem gi_Model_addNumber : gMi y_Model_addNumber prog_13_method_11_code 7 none 3 8 := ⟨(gWs_at 1339 (by decide +kernel) (by decide +kernel)), (gWs_at 1338 (by decide +kernel) (by decide +kernel)), (gWs_at 100 (by decide +kernel) (by decide +kernel)), (gWs_at 125 (by decide +kernel) (by decide +kernel)), ⟨by decide +kernel, by decide +kernel, by decide +kernel⟩, _, _, rfl⟩
theorem gm_Model_108 : gMk "TermDeskModel" 108 y_Model_addNumber := Or.inl (gWs_at 1336 (by decide +kernel) (by decide +kernel))
theorem d_Model_addNumber_0 : decode prog_13_method_11_code 0 = .ok (.lconst 0, 1) := by decide +kernel
theorem d_Model_addNumber_1 : decode prog_13_method_11_code 1 = .ok (.lstore 4, 2) := by decide +kernel
theorem d_Model_addNumber_3 : decode prog_13_method_11_code 3 = .ok (.iconst 0, 1) := by decide +kernel
theorem d_Model_addNumber_4 : decode prog_13_method_11_code 4 = .ok (.istore 6, 2) := by decide +kernel
theorem d_Model_addNumber_6 : decode prog_13_method_11_code 6 = .ok (.iload 6, 2) := by decide +kernel
theorem d_Model_addNumber_8 : decode prog_13_method_11_code 8 = .ok (.aload_n 0, 1) := by decide +kernel
theorem d_Model_addNumber_9 : decode prog_13_method_11_code 9 = .ok (.getfield 56, 3) := by decide +kernel
theorem d_Model_addNumber_12 : decode prog_13_method_11_code 12 = .ok (.iload_n 2, 1) := by decide +kernel
theorem d_Model_addNumber_13 : decode prog_13_method_11_code 13 = .ok (.iaload, 1) := by decide +kernel
theorem d_Model_addNumber_14 : decode prog_13_method_11_code 14 = .ok (.if_icmp .lt 10, 3) := by decide +kernel
theorem d_Model_addNumber_17 : decode prog_13_method_11_code 17 = .ok (.lload 4, 2) := by decide +kernel
theorem d_Model_addNumber_19 : decode prog_13_method_11_code 19 = .ok (.lconst 0, 1) := by decide +kernel
theorem d_Model_addNumber_20 : decode prog_13_method_11_code 20 = .ok (.lcmp, 1) := by decide +kernel
theorem d_Model_addNumber_21 : decode prog_13_method_11_code 21 = .ok (.ifCond .le 92, 3) := by decide +kernel
theorem d_Model_addNumber_24 : decode prog_13_method_11_code 24 = .ok (.lload 4, 2) := by decide +kernel
theorem d_Model_addNumber_26 : decode prog_13_method_11_code 26 = .ok (.aload_n 0, 1) := by decide +kernel
theorem d_Model_addNumber_27 : decode prog_13_method_11_code 27 = .ok (.iload_n 1, 1) := by decide +kernel
theorem d_Model_addNumber_28 : decode prog_13_method_11_code 28 = .ok (.iload 6, 2) := by decide +kernel
theorem d_Model_addNumber_30 : decode prog_13_method_11_code 30 = .ok (.invokevirtual 89, 3) := by decide +kernel
theorem d_Model_addNumber_33 : decode prog_13_method_11_code 33 = .ok (.i2l, 1) := by decide +kernel
theorem d_Model_addNumber_34 : decode prog_13_method_11_code 34 = .ok (.iload_n 3, 1) := by decide +kernel
theorem d_Model_addNumber_35 : decode prog_13_method_11_code 35 = .ok (.i2l, 1) := by decide +kernel
theorem d_Model_addNumber_36 : decode prog_13_method_11_code 36 = .ok (.aload_n 0, 1) := by decide +kernel
theorem d_Model_addNumber_37 : decode prog_13_method_11_code 37 = .ok (.iload_n 2, 1) := by decide +kernel
theorem d_Model_addNumber_38 : decode prog_13_method_11_code 38 = .ok (.iload 6, 2) := by decide +kernel
theorem d_Model_addNumber_40 : decode prog_13_method_11_code 40 = .ok (.invokevirtual 89, 3) := by decide +kernel
theorem d_Model_addNumber_43 : decode prog_13_method_11_code 43 = .ok (.i2l, 1) := by decide +kernel
theorem d_Model_addNumber_44 : decode prog_13_method_11_code 44 = .ok (.lmul, 1) := by decide +kernel
theorem d_Model_addNumber_45 : decode prog_13_method_11_code 45 = .ok (.ladd, 1) := by decide +kernel
theorem d_Model_addNumber_46 : decode prog_13_method_11_code 46 = .ok (.ladd, 1) := by decide +kernel
theorem d_Model_addNumber_47 : decode prog_13_method_11_code 47 = .ok (.lstore 4, 2) := by decide +kernel
theorem d_Model_addNumber_49 : decode prog_13_method_11_code 49 = .ok (.aload_n 0, 1) := by decide +kernel
theorem d_Model_addNumber_50 : decode prog_13_method_11_code 50 = .ok (.getfield 53, 3) := by decide +kernel
theorem d_Model_addNumber_53 : decode prog_13_method_11_code 53 = .ok (.bipush 48, 2) := by decide +kernel
theorem d_Model_addNumber_55 : decode prog_13_method_11_code 55 = .ok (.iload_n 1, 1) := by decide +kernel
theorem d_Model_addNumber_56 : decode prog_13_method_11_code 56 = .ok (.imul, 1) := by decide +kernel
theorem d_Model_addNumber_57 : decode prog_13_method_11_code 57 = .ok (.iload 6, 2) := by decide +kernel
theorem d_Model_addNumber_59 : decode prog_13_method_11_code 59 = .ok (.iadd, 1) := by decide +kernel
theorem d_Model_addNumber_60 : decode prog_13_method_11_code 60 = .ok (.lload 4, 2) := by decide +kernel
theorem d_Model_addNumber_62 : decode prog_13_method_11_code 62 = .ok (.ldc2_w 93, 3) := by decide +kernel
theorem d_Model_addNumber_65 : decode prog_13_method_11_code 65 = .ok (.land, 1) := by decide +kernel
theorem d_Model_addNumber_66 : decode prog_13_method_11_code 66 = .ok (.l2i, 1) := by decide +kernel
theorem d_Model_addNumber_67 : decode prog_13_method_11_code 67 = .ok (.iastore, 1) := by decide +kernel
theorem d_Model_addNumber_68 : decode prog_13_method_11_code 68 = .ok (.aload_n 0, 1) := by decide +kernel
theorem d_Model_addNumber_69 : decode prog_13_method_11_code 69 = .ok (.getfield 56, 3) := by decide +kernel
theorem d_Model_addNumber_72 : decode prog_13_method_11_code 72 = .ok (.iload_n 1, 1) := by decide +kernel
theorem d_Model_addNumber_73 : decode prog_13_method_11_code 73 = .ok (.iload 6, 2) := by decide +kernel
theorem d_Model_addNumber_75 : decode prog_13_method_11_code 75 = .ok (.iconst 1, 1) := by decide +kernel
theorem d_Model_addNumber_76 : decode prog_13_method_11_code 76 = .ok (.iadd, 1) := by decide +kernel
theorem d_Model_addNumber_77 : decode prog_13_method_11_code 77 = .ok (.aload_n 0, 1) := by decide +kernel
theorem d_Model_addNumber_78 : decode prog_13_method_11_code 78 = .ok (.getfield 56, 3) := by decide +kernel
theorem d_Model_addNumber_81 : decode prog_13_method_11_code 81 = .ok (.iload_n 1, 1) := by decide +kernel
theorem d_Model_addNumber_82 : decode prog_13_method_11_code 82 = .ok (.iaload, 1) := by decide +kernel
theorem d_Model_addNumber_83 : decode prog_13_method_11_code 83 = .ok (.if_icmp .le 10, 3) := by decide +kernel
theorem d_Model_addNumber_86 : decode prog_13_method_11_code 86 = .ok (.iload 6, 2) := by decide +kernel
theorem d_Model_addNumber_88 : decode prog_13_method_11_code 88 = .ok (.iconst 1, 1) := by decide +kernel
theorem d_Model_addNumber_89 : decode prog_13_method_11_code 89 = .ok (.iadd, 1) := by decide +kernel
theorem d_Model_addNumber_90 : decode prog_13_method_11_code 90 = .ok (.goto 9, 3) := by decide +kernel
theorem d_Model_addNumber_93 : decode prog_13_method_11_code 93 = .ok (.aload_n 0, 1) := by decide +kernel
theorem d_Model_addNumber_94 : decode prog_13_method_11_code 94 = .ok (.getfield 56, 3) := by decide +kernel
theorem d_Model_addNumber_97 : decode prog_13_method_11_code 97 = .ok (.iload_n 1, 1) := by decide +kernel
theorem d_Model_addNumber_98 : decode prog_13_method_11_code 98 = .ok (.iaload, 1) := by decide +kernel
theorem d_Model_addNumber_99 : decode prog_13_method_11_code 99 = .ok (.iastore, 1) := by decide +kernel
theorem d_Model_addNumber_100 : decode prog_13_method_11_code 100 = .ok (.lload 4, 2) := by decide +kernel
theorem d_Model_addNumber_102 : decode prog_13_method_11_code 102 = .ok (.bipush 15, 2) := by decide +kernel
theorem d_Model_addNumber_104 : decode prog_13_method_11_code 104 = .ok (.lshr, 1) := by decide +kernel
theorem d_Model_addNumber_105 : decode prog_13_method_11_code 105 = .ok (.lstore 4, 2) := by decide +kernel
theorem d_Model_addNumber_107 : decode prog_13_method_11_code 107 = .ok (.iinc 6 1, 3) := by decide +kernel
theorem d_Model_addNumber_110 : decode prog_13_method_11_code 110 = .ok (.goto (-104), 3) := by decide +kernel
theorem d_Model_addNumber_113 : decode prog_13_method_11_code 113 = .ok (.aload_n 0, 1) := by decide +kernel
theorem d_Model_addNumber_114 : decode prog_13_method_11_code 114 = .ok (.iload_n 1, 1) := by decide +kernel
theorem d_Model_addNumber_115 : decode prog_13_method_11_code 115 = .ok (.invokevirtual 95, 3) := by decide +kernel
theorem d_Model_addNumber_118 : decode prog_13_method_11_code 118 = .ok (.return_, 1) := by decide +kernel
noncomputable def M_Model_addNumber_b99 (x1 : Int32) (x2 : Int32) (x3 : Int32) (y4 : Int64) (x6 : Int32) (s0 : Int32) (s1 : Int32) (s2 : Nat) (u : gSt) : Option ((Int32 × Int32 × Int32 × Int64 × Int32 × gSt) ⊕ ((Int32 × gSt))) :=
  gc (gK s2 == 22) <| gc (gIn s1 (gLen s2)) <| (some (gsA u s2 (gIx s1) s0)).bind fun u99 =>
  some (.inl (x1, x2, x3, y4 >>> ((15 : Int32).toInt64 &&& (63 : Int64)), x6 + (1 : Int32), u99))
set_option maxHeartbeats 4000000 in
set_option maxRecDepth 100000 in
theorem t_Model_addNumber_b99 (C : gX "TermDeskModel" prog_13_method_11_code 7 none 1 22 R cells slots cy D ρ A p s m args meth c) {x1 : Int32} {x2 : Int32} {x3 : Int32} {y4 : Int64} {x6 : Int32} {s0 : Int32} {s1 : Int32} {s2 : Nat} {u : gSt} {z : (Int32 × Int32 × Int32 × Int64 × Int32 × gSt) ⊕ ((Int32 × gSt))} (hM : M_Model_addNumber_b99 x1 x2 x3 y4 x6 s0 s1 s2 u = some z) (hN : ∀ x1' x2' x3' y4' x6' u', z = .inl (x1', x2', x3', y4', x6', u') → gAt p l e R s m args below meth c Q H0 cells slots cy D ρ A 7 6 [(0, .ref (ρ 42)), (1, .int (x1')), (2, .int (x2')), (3, .int (x3')), (4, .long (y4')), (6, .int (x6'))] [] (u')) (hE0 : ∀ x1' u', z = .inr (x1', u') → gAt p l e R s m args below meth c Q H0 cells slots cy D ρ A 7 113 [(0, .ref (ρ 42)), (1, .int (x1'))] [] (u')) : gAt p l e R s m args below meth c Q H0 cells slots cy D ρ A 7 99 [(0, .ref (ρ 42)), (1, .int x1), (2, .int x2), (3, .int x3), (4, .long y4), (6, .int x6)] [.int s0, .int s1, .ref (ρ s2)] u := by
  intro ls H locs hl hP hS
  have hx := C.1
  have hb := C.2.1
  unfold M_Model_addNumber_b99 at hM
  obtain ⟨h99, hM⟩ := gc_some hM
  obtain ⟨hi99, hM⟩ := gc_some hM
  obtain ⟨u99, e99, hM⟩ := gb_some hM
  refine g_iast C hP hS (eq_of_beq h99) hi99 d_Model_addNumber_99 (fun H locs hP hS => ?_)
  rw [Option.some.inj e99] at hP
  refine lv_lload hx hb d_Model_addNumber_100 (lv_at hl 4 rfl) ?_
  refine lv_bipush (v := (15 : Int32)) hx hb d_Model_addNumber_102 (by decide) ?_
  refine lv_lshr (v := y4 >>> ((15 : Int32).toInt64 &&& (63 : Int64))) hx hb d_Model_addNumber_104 rfl ?_
  refine lv_lstore (lv' := [(4, .long (y4 >>> ((15 : Int32).toInt64 &&& (63 : Int64)))), (0, .ref (ρ 42)), (1, .int x1), (2, .int x2), (3, .int x3), (6, .int x6)]) hx hb d_Model_addNumber_105 hl (by decide) rfl (fun ls hl => ?_)
  refine lv_iinc (k := 5) (v := x6 + (1 : Int32)) (lv' := [(6, .int (x6 + (1 : Int32))), (4, .long (y4 >>> ((15 : Int32).toInt64 &&& (63 : Int64)))), (0, .ref (ρ 42)), (1, .int x1), (2, .int x2), (3, .int x3)]) hx hb d_Model_addNumber_107 hl rfl (congrArg (fun z => x6 + z) (by decide)) (by decide) rfl (fun ls hl => ?_)
  refine lv_goto (tgt := 6) hx hb d_Model_addNumber_110 (by decide) ?_
  exact hN _ _ _ _ _ _ (Option.some.inj hM).symm ls H locs (lv_sub hl [2, 3, 4, 5, 1, 0] rfl) hP hS
noncomputable def M_Model_addNumber_b24 (x1 : Int32) (x2 : Int32) (x3 : Int32) (y4 : Int64) (x6 : Int32) (u : gSt) : Option ((Int32 × Int32 × Int32 × Int64 × Int32 × gSt) ⊕ ((Int32 × gSt))) :=
  (M_Model_digit x1 x6 u).bind fun q30 =>
  (M_Model_digit x2 x6 q30.2).bind fun q40 =>
  gc (gIn (((48 : Int32) * x1) + x6) (gLen 55)) <| (some (gsA q40.2 55 (gIx (((48 : Int32) * x1) + x6)) (((y4 + (q30.1.toInt64 + (x3.toInt64 * q40.1.toInt64))) &&& (32767 : Int64)).toInt32))).bind fun u67 =>
  gc (gIn x1 (gLen 56)) <| if (x6 + (1 : Int32)) ≤ (u67.2.2.1 56 (gIx x1)) then
    (gc (gIn x1 (gLen 56)) <| M_Model_addNumber_b99 x1 x2 x3 (y4 + (q30.1.toInt64 + (x3.toInt64 * q40.1.toInt64))) x6 (u67.2.2.1 56 (gIx x1)) x1 56 u67)
  else
    (M_Model_addNumber_b99 x1 x2 x3 (y4 + (q30.1.toInt64 + (x3.toInt64 * q40.1.toInt64))) x6 (x6 + (1 : Int32)) x1 56 u67)
set_option maxHeartbeats 4000000 in
set_option maxRecDepth 100000 in
theorem t_Model_addNumber_b24 (C : gX "TermDeskModel" prog_13_method_11_code 7 none 1 22 R cells slots cy D ρ A p s m args meth c) {x1 : Int32} {x2 : Int32} {x3 : Int32} {y4 : Int64} {x6 : Int32} {u : gSt} {z : (Int32 × Int32 × Int32 × Int64 × Int32 × gSt) ⊕ ((Int32 × gSt))} (hM : M_Model_addNumber_b24 x1 x2 x3 y4 x6 u = some z) (hN : ∀ x1' x2' x3' y4' x6' u', z = .inl (x1', x2', x3', y4', x6', u') → gAt p l e R s m args below meth c Q H0 cells slots cy D ρ A 7 6 [(0, .ref (ρ 42)), (1, .int (x1')), (2, .int (x2')), (3, .int (x3')), (4, .long (y4')), (6, .int (x6'))] [] (u')) (hE0 : ∀ x1' u', z = .inr (x1', u') → gAt p l e R s m args below meth c Q H0 cells slots cy D ρ A 7 113 [(0, .ref (ρ 42)), (1, .int (x1'))] [] (u')) : gAt p l e R s m args below meth c Q H0 cells slots cy D ρ A 7 24 [(0, .ref (ρ 42)), (1, .int x1), (2, .int x2), (3, .int x3), (4, .long y4), (6, .int x6)] [] u := by
  intro ls H locs hl hP hS
  have hx := C.1
  have hb := C.2.1
  unfold M_Model_addNumber_b24 at hM
  refine lv_lload hx hb d_Model_addNumber_24 (lv_at hl 4 rfl) ?_
  refine lv_aload_n hx hb d_Model_addNumber_26 rfl (lv_at hl 0 rfl) ?_
  refine lv_iload_n hx hb d_Model_addNumber_27 rfl (lv_at hl 1 rfl) ?_
  refine lv_iload hx hb d_Model_addNumber_28 (lv_at hl 5 rfl) ?_
  obtain ⟨q30, hq30, hM⟩ := gb_some hM
  refine g_backI (g_runV (As := [.int x1, .int x6]) C hP (c_Model_digit C.2.2.2.2.2.2.2.2.1 hq30) gi_Model_digit gm_Model_89 rfl rfl (by decide) (by decide) hl.1 rfl (Nat.le_of_ble_eq_true rfl) d_Model_addNumber_30) hS (fun H locs hP hS => ?_)
  refine lv_i2l (v := q30.1.toInt64) hx hb d_Model_addNumber_33 rfl ?_
  refine lv_iload_n hx hb d_Model_addNumber_34 rfl (lv_at hl 3 rfl) ?_
  refine lv_i2l (v := x3.toInt64) hx hb d_Model_addNumber_35 rfl ?_
  refine lv_aload_n hx hb d_Model_addNumber_36 rfl (lv_at hl 0 rfl) ?_
  refine lv_iload_n hx hb d_Model_addNumber_37 rfl (lv_at hl 2 rfl) ?_
  refine lv_iload hx hb d_Model_addNumber_38 (lv_at hl 5 rfl) ?_
  obtain ⟨q40, hq40, hM⟩ := gb_some hM
  refine g_backI (g_runV (As := [.int x2, .int x6]) C hP (c_Model_digit C.2.2.2.2.2.2.2.2.1 hq40) gi_Model_digit gm_Model_89 rfl rfl (by decide) (by decide) hl.1 rfl (Nat.le_of_ble_eq_true rfl) d_Model_addNumber_40) hS (fun H locs hP hS => ?_)
  refine lv_i2l (v := q40.1.toInt64) hx hb d_Model_addNumber_43 rfl ?_
  refine lv_lmul hx hb d_Model_addNumber_44 ?_
  refine lv_ladd hx hb d_Model_addNumber_45 ?_
  refine lv_ladd hx hb d_Model_addNumber_46 ?_
  refine lv_lstore (lv' := [(4, .long (y4 + (q30.1.toInt64 + (x3.toInt64 * q40.1.toInt64)))), (0, .ref (ρ 42)), (1, .int x1), (2, .int x2), (3, .int x3), (6, .int x6)]) hx hb d_Model_addNumber_47 hl (by decide) rfl (fun ls hl => ?_)
  refine lv_aload_n hx hb d_Model_addNumber_49 rfl (lv_at hl 1 rfl) ?_
  refine g_getR (b := 55) C hP gl_DeskModel_53 rfl rfl rfl d_Model_addNumber_50 ?_
  refine lv_bipush (v := (48 : Int32)) hx hb d_Model_addNumber_53 (by decide) ?_
  refine lv_iload_n hx hb d_Model_addNumber_55 rfl (lv_at hl 2 rfl) ?_
  refine lv_imul hx hb d_Model_addNumber_56 ?_
  refine lv_iload hx hb d_Model_addNumber_57 (lv_at hl 5 rfl) ?_
  refine lv_iadd hx hb d_Model_addNumber_59 ?_
  refine lv_lload hx hb d_Model_addNumber_60 (lv_at hl 0 rfl) ?_
  refine lv_ldc2 (v := 32767) hx hb C.2.2.2.2.1 (C.2.2.2.2.2.1 _ (gWs_at 1318 (by decide +kernel) (by decide +kernel))) d_Model_addNumber_62 ?_
  refine lv_land hx hb d_Model_addNumber_65 ?_
  refine lv_l2i (v := ((y4 + (q30.1.toInt64 + (x3.toInt64 * q40.1.toInt64))) &&& (32767 : Int64)).toInt32) hx hb d_Model_addNumber_66 rfl ?_
  obtain ⟨hi67, hM⟩ := gc_some hM
  obtain ⟨u67, e67, hM⟩ := gb_some hM
  refine g_iast C hP hS rfl hi67 d_Model_addNumber_67 (fun H locs hP hS => ?_)
  rw [Option.some.inj e67] at hP
  refine lv_aload_n hx hb d_Model_addNumber_68 rfl (lv_at hl 1 rfl) ?_
  refine g_getR (b := 56) C hP gl_DeskModel_56 rfl rfl rfl d_Model_addNumber_69 ?_
  refine lv_iload_n hx hb d_Model_addNumber_72 rfl (lv_at hl 2 rfl) ?_
  refine lv_iload hx hb d_Model_addNumber_73 (lv_at hl 5 rfl) ?_
  refine lv_iconst (v := (1 : Int32)) hx hb d_Model_addNumber_75 (by decide) ?_
  refine lv_iadd hx hb d_Model_addNumber_76 ?_
  refine lv_aload_n hx hb d_Model_addNumber_77 rfl (lv_at hl 1 rfl) ?_
  refine g_getR (b := 56) C hP gl_DeskModel_56 rfl rfl rfl d_Model_addNumber_78 ?_
  refine lv_iload_n hx hb d_Model_addNumber_81 rfl (lv_at hl 2 rfl) ?_
  obtain ⟨hi82, hM⟩ := gc_some hM
  refine g_iald C hP rfl hi82 d_Model_addNumber_82 ?_
  refine lv_icmp_le (tgt := 93) hx hb d_Model_addNumber_83 (by decide) (fun hc83 => ?_) (fun hc83 => ?_)
  · replace hM := gi_t hc83 hM
    refine lv_aload_n hx hb d_Model_addNumber_93 rfl (lv_at hl 1 rfl) ?_
    refine g_getR (b := 56) C hP gl_DeskModel_56 rfl rfl rfl d_Model_addNumber_94 ?_
    refine lv_iload_n hx hb d_Model_addNumber_97 rfl (lv_at hl 2 rfl) ?_
    obtain ⟨hi98, hM⟩ := gc_some hM
    refine g_iald C hP rfl hi98 d_Model_addNumber_98 ?_
    exact t_Model_addNumber_b99 C hM hN hE0 ls H locs (lv_sub hl [1, 2, 3, 4, 0, 5] rfl) hP hS
  · replace hM := gi_f hc83 hM
    refine lv_iload hx hb d_Model_addNumber_86 (lv_at hl 5 rfl) ?_
    refine lv_iconst (v := (1 : Int32)) hx hb d_Model_addNumber_88 (by decide) ?_
    refine lv_iadd hx hb d_Model_addNumber_89 ?_
    refine lv_goto (tgt := 99) hx hb d_Model_addNumber_90 (by decide) ?_
    exact t_Model_addNumber_b99 C hM hN hE0 ls H locs (lv_sub hl [1, 2, 3, 4, 0, 5] rfl) hP hS
noncomputable def M_Model_addNumber_b6 (x1 : Int32) (x2 : Int32) (x3 : Int32) (y4 : Int64) (x6 : Int32) (u : gSt) : Option ((Int32 × Int32 × Int32 × Int64 × Int32 × gSt) ⊕ ((Int32 × gSt))) :=
  gc (gIn x2 (gLen 56)) <| if x6 < (u.2.2.1 56 (gIx x2)) then
    (M_Model_addNumber_b24 x1 x2 x3 y4 x6 u)
  else
    (if (lg_cmp y4 (0 : Int64)) ≤ (0 : Int32) then
      (some (.inr (x1, u)))
    else
      (M_Model_addNumber_b24 x1 x2 x3 y4 x6 u))
set_option maxHeartbeats 4000000 in
set_option maxRecDepth 100000 in
theorem t_Model_addNumber_b6 (C : gX "TermDeskModel" prog_13_method_11_code 7 none 1 22 R cells slots cy D ρ A p s m args meth c) {x1 : Int32} {x2 : Int32} {x3 : Int32} {y4 : Int64} {x6 : Int32} {u : gSt} {z : (Int32 × Int32 × Int32 × Int64 × Int32 × gSt) ⊕ ((Int32 × gSt))} (hM : M_Model_addNumber_b6 x1 x2 x3 y4 x6 u = some z) (hN : ∀ x1' x2' x3' y4' x6' u', z = .inl (x1', x2', x3', y4', x6', u') → gAt p l e R s m args below meth c Q H0 cells slots cy D ρ A 7 6 [(0, .ref (ρ 42)), (1, .int (x1')), (2, .int (x2')), (3, .int (x3')), (4, .long (y4')), (6, .int (x6'))] [] (u')) (hE0 : ∀ x1' u', z = .inr (x1', u') → gAt p l e R s m args below meth c Q H0 cells slots cy D ρ A 7 113 [(0, .ref (ρ 42)), (1, .int (x1'))] [] (u')) : gAt p l e R s m args below meth c Q H0 cells slots cy D ρ A 7 6 [(0, .ref (ρ 42)), (1, .int x1), (2, .int x2), (3, .int x3), (4, .long y4), (6, .int x6)] [] u := by
  intro ls H locs hl hP hS
  have hx := C.1
  have hb := C.2.1
  unfold M_Model_addNumber_b6 at hM
  refine lv_iload hx hb d_Model_addNumber_6 (lv_at hl 5 rfl) ?_
  refine lv_aload_n hx hb d_Model_addNumber_8 rfl (lv_at hl 0 rfl) ?_
  refine g_getR (b := 56) C hP gl_DeskModel_56 rfl rfl rfl d_Model_addNumber_9 ?_
  refine lv_iload_n hx hb d_Model_addNumber_12 rfl (lv_at hl 2 rfl) ?_
  obtain ⟨hi13, hM⟩ := gc_some hM
  refine g_iald C hP rfl hi13 d_Model_addNumber_13 ?_
  refine lv_icmp_lt (tgt := 24) hx hb d_Model_addNumber_14 (by decide) (fun hc14 => ?_) (fun hc14 => ?_)
  · replace hM := gi_t hc14 hM
    exact t_Model_addNumber_b24 C hM hN hE0 ls H locs (lv_sub hl [0, 1, 2, 3, 4, 5] rfl) hP hS
  · replace hM := gi_f hc14 hM
    refine lv_lload hx hb d_Model_addNumber_17 (lv_at hl 4 rfl) ?_
    refine lv_lconst (v := 0) hx hb d_Model_addNumber_19 (by decide) ?_
    refine W.lcmp hx hb d_Model_addNumber_20 ?_
    refine lv_if_le (tgt := 113) hx hb d_Model_addNumber_21 (by decide) (fun hc21 => ?_) (fun hc21 => ?_)
    · replace hM := gi_t hc21 hM
      exact hE0 _ _ (Option.some.inj hM).symm ls H locs (lv_sub hl [0, 1] rfl) hP hS
    · replace hM := gi_f hc21 hM
      exact t_Model_addNumber_b24 C hM hN hE0 ls H locs (lv_sub hl [0, 1, 2, 3, 4, 5] rfl) hP hS
noncomputable def M_Model_addNumber_L6 : (Int32 × Int32 × Int32 × Int64 × Int32 × gSt) → Option ((Int32 × Int32 × Int32 × Int64 × Int32 × gSt) ⊕ ((Int32 × gSt))) := fun x => M_Model_addNumber_b6 x.1 x.2.1 x.2.2.1 x.2.2.2.1 x.2.2.2.2.1 x.2.2.2.2.2
theorem t_Model_addNumber_L6 (C : gX "TermDeskModel" prog_13_method_11_code 7 none 1 22 R cells slots cy D ρ A p s m args meth c) {x1 : Int32} {x2 : Int32} {x3 : Int32} {y4 : Int64} {x6 : Int32} {u : gSt} {yy : (Int32 × gSt)} (hL : gLp M_Model_addNumber_L6 (x1, x2, x3, y4, x6, u) = some yy) (hE0 : (∀ y', yy = y' → gAt p l e R s m args below meth c Q H0 cells slots cy D ρ A 7 113 [(0, .ref (ρ 42)), (1, .int (y'.1))] [] (y'.2))) : gAt p l e R s m args below meth c Q H0 cells slots cy D ρ A 7 6 [(0, .ref (ρ 42)), (1, .int x1), (2, .int x2), (3, .int x3), (4, .long y4), (6, .int x6)] [] u :=
  g_loop (f := M_Model_addNumber_L6) (P := fun x => gAt p l e R s m args below meth c Q H0 cells slots cy D ρ A 7 6 [(0, .ref (ρ 42)), (1, .int x.1), (2, .int x.2.1), (3, .int x.2.2.1), (4, .long x.2.2.2.1), (6, .int x.2.2.2.2.1)] [] x.2.2.2.2.2) (E := fun yy => (∀ y', yy = y' → gAt p l e R s m args below meth c Q H0 cells slots cy D ρ A 7 113 [(0, .ref (ρ 42)), (1, .int (y'.1))] [] (y'.2))) (fun x z hf hN hE => t_Model_addNumber_b6 C hf (fun x1' x2' x3' y4' x6' u' h => hN (x1', x2', x3', y4', x6', u') h) (fun x1' u' h => (hE _ h) (x1', u') rfl)) hL hE0
noncomputable def M_Model_addNumber (x1 : Int32) (x2 : Int32) (x3 : Int32) (u : gSt) : Option (gSt) :=
  (gLp M_Model_addNumber_L6 (x1, x2, x3, (0 : Int64), (0 : Int32), u)).bind fun y6 =>
  (M_Model_trimNumber y6.1 y6.2).bind fun q115 =>
  some q115
set_option maxHeartbeats 4000000 in
set_option maxRecDepth 100000 in
theorem t_Model_addNumber (C : gX "TermDeskModel" prog_13_method_11_code 7 none 1 22 R cells slots cy D ρ A p s m args meth c) {x1 : Int32} {x2 : Int32} {x3 : Int32} {u : gSt} {z : gSt} (hM : M_Model_addNumber x1 x2 x3 u = some z) (hR : gRtV p l e R s m args below meth c Q H0 cells slots cy D ρ A prog_13_method_11_code z) : gAt p l e R s m args below meth c Q H0 cells slots cy D ρ A 7 0 [(0, .ref (ρ 42)), (1, .int x1), (2, .int x2), (3, .int x3)] [] u := by
  intro ls H locs hl hP hS
  have hx := C.1
  have hb := C.2.1
  unfold M_Model_addNumber at hM
  refine lv_lconst (v := 0) hx hb d_Model_addNumber_0 (by decide) ?_
  refine lv_lstore (lv' := [(4, .long (0 : Int64)), (0, .ref (ρ 42)), (1, .int x1), (2, .int x2), (3, .int x3)]) hx hb d_Model_addNumber_1 hl (by decide) rfl (fun ls hl => ?_)
  refine lv_iconst (v := (0 : Int32)) hx hb d_Model_addNumber_3 (by decide) ?_
  refine lv_istore (lv' := [(6, .int (0 : Int32)), (4, .long (0 : Int64)), (0, .ref (ρ 42)), (1, .int x1), (2, .int x2), (3, .int x3)]) hx hb d_Model_addNumber_4 hl (by decide) rfl (fun ls hl => ?_)
  obtain ⟨y6, hL6, hM⟩ := gb_some hM
  refine t_Model_addNumber_L6 C hL6 (fun y6_0 hy => ?_) ls H locs (lv_sub hl [2, 3, 4, 5, 1, 0] rfl) hP hS
  · subst hy
    intro ls H locs hl hP hS
    refine lv_aload_n hx hb d_Model_addNumber_113 rfl (lv_at hl 0 rfl) ?_
    refine lv_iload_n hx hb d_Model_addNumber_114 rfl (lv_at hl 1 rfl) ?_
    obtain ⟨q115, hq115, hM⟩ := gb_some hM
    refine g_backV (g_runV (As := [.int y6.1]) C hP (c_Model_trimNumber C.2.2.2.2.2.2.2.2.1 hq115) gi_Model_trimNumber gm_Model_95 rfl rfl (by decide) (by decide) hl.1 rfl (Nat.le_of_ble_eq_true rfl) d_Model_addNumber_115) hS (fun H locs hP hS => ?_)
    obtain rfl := Option.some.inj hM
    exact hR _ ls H locs d_Model_addNumber_118 hP hS
theorem c_Model_addNumber {l : Launch} {cy : Nat → ClassId} {D : va_G} {ρ : Nat → Nat} {A : Nat → Prop} (hD : gD ρ A) {x1 : Int32} {x2 : Int32} {x3 : Int32} {u : gSt} {z : gSt} (hM : M_Model_addNumber x1 x2 x3 u = some z) : gCtV l y_Model_addNumber prog_13_method_11_code 7 none 1 22 cy D ρ A [.ref (ρ 42), .int x1, .int x2, .int x3] u z :=
  g_met (by decide) hD (Nat.le_of_ble_eq_true rfl) (fun p e s m below meth c ls X hl hP => t_Model_addNumber X hM (fun pc ls H locs hd hP hS => g_vret X hP hS hd) ls _ [] hl hP va_S.rf)
end
section
variable {p : Program} {l : Launch} {e : Env} {R : Room} {s : State} {m : MethodId} {args : Array Value} {below : List Frame} {meth : Method} {c : Code} {Q : State → Prop} {H0 : Heap} {cells slots : Nat} {cy : Nat → ClassId} {D : va_G} {ρ : Nat → Nat} {A : Nat → Prop}
def y_Model_lessNumber : MethodName := ⟨"TermDeskModel", "lessNumber", "(II)V"⟩
theorem gi_Model_lessNumber : gMi y_Model_lessNumber prog_13_method_12_code 5 none 2 8 := ⟨(gWs_at 1400 (by decide +kernel) (by decide +kernel)), (gWs_at 1399 (by decide +kernel) (by decide +kernel)), (gWs_at 113 (by decide +kernel) (by decide +kernel)), (gWs_at 125 (by decide +kernel) (by decide +kernel)), ⟨by decide +kernel, by decide +kernel, by decide +kernel⟩, _, _, rfl⟩
theorem gm_Model_124 : gMk "TermDeskModel" 124 y_Model_lessNumber := Or.inl (gWs_at 1397 (by decide +kernel) (by decide +kernel))
theorem d_Model_lessNumber_0 : decode prog_13_method_12_code 0 = .ok (.iconst 0, 1) := by decide +kernel
theorem d_Model_lessNumber_1 : decode prog_13_method_12_code 1 = .ok (.istore_n 3, 1) := by decide +kernel
theorem d_Model_lessNumber_2 : decode prog_13_method_12_code 2 = .ok (.iconst 0, 1) := by decide +kernel
theorem d_Model_lessNumber_3 : decode prog_13_method_12_code 3 = .ok (.istore 4, 2) := by decide +kernel
theorem d_Model_lessNumber_5 : decode prog_13_method_12_code 5 = .ok (.iload 4, 2) := by decide +kernel
theorem d_Model_lessNumber_7 : decode prog_13_method_12_code 7 = .ok (.aload_n 0, 1) := by decide +kernel
theorem d_Model_lessNumber_8 : decode prog_13_method_12_code 8 = .ok (.getfield 56, 3) := by decide +kernel
theorem d_Model_lessNumber_11 : decode prog_13_method_12_code 11 = .ok (.iload_n 1, 1) := by decide +kernel
theorem d_Model_lessNumber_12 : decode prog_13_method_12_code 12 = .ok (.iaload, 1) := by decide +kernel
theorem d_Model_lessNumber_13 : decode prog_13_method_12_code 13 = .ok (.if_icmp .ge 49, 3) := by decide +kernel
theorem d_Model_lessNumber_16 : decode prog_13_method_12_code 16 = .ok (.iload_n 3, 1) := by decide +kernel
theorem d_Model_lessNumber_17 : decode prog_13_method_12_code 17 = .ok (.aload_n 0, 1) := by decide +kernel
theorem d_Model_lessNumber_18 : decode prog_13_method_12_code 18 = .ok (.iload_n 1, 1) := by decide +kernel
theorem d_Model_lessNumber_19 : decode prog_13_method_12_code 19 = .ok (.iload 4, 2) := by decide +kernel
theorem d_Model_lessNumber_21 : decode prog_13_method_12_code 21 = .ok (.invokevirtual 89, 3) := by decide +kernel
theorem d_Model_lessNumber_24 : decode prog_13_method_12_code 24 = .ok (.aload_n 0, 1) := by decide +kernel
theorem d_Model_lessNumber_25 : decode prog_13_method_12_code 25 = .ok (.iload_n 2, 1) := by decide +kernel
theorem d_Model_lessNumber_26 : decode prog_13_method_12_code 26 = .ok (.iload 4, 2) := by decide +kernel
theorem d_Model_lessNumber_28 : decode prog_13_method_12_code 28 = .ok (.invokevirtual 89, 3) := by decide +kernel
theorem d_Model_lessNumber_31 : decode prog_13_method_12_code 31 = .ok (.isub, 1) := by decide +kernel
theorem d_Model_lessNumber_32 : decode prog_13_method_12_code 32 = .ok (.iadd, 1) := by decide +kernel
theorem d_Model_lessNumber_33 : decode prog_13_method_12_code 33 = .ok (.istore_n 3, 1) := by decide +kernel
theorem d_Model_lessNumber_34 : decode prog_13_method_12_code 34 = .ok (.aload_n 0, 1) := by decide +kernel
theorem d_Model_lessNumber_35 : decode prog_13_method_12_code 35 = .ok (.getfield 53, 3) := by decide +kernel
theorem d_Model_lessNumber_38 : decode prog_13_method_12_code 38 = .ok (.bipush 48, 2) := by decide +kernel
theorem d_Model_lessNumber_40 : decode prog_13_method_12_code 40 = .ok (.iload_n 1, 1) := by decide +kernel
theorem d_Model_lessNumber_41 : decode prog_13_method_12_code 41 = .ok (.imul, 1) := by decide +kernel
theorem d_Model_lessNumber_42 : decode prog_13_method_12_code 42 = .ok (.iload 4, 2) := by decide +kernel
theorem d_Model_lessNumber_44 : decode prog_13_method_12_code 44 = .ok (.iadd, 1) := by decide +kernel
theorem d_Model_lessNumber_45 : decode prog_13_method_12_code 45 = .ok (.iload_n 3, 1) := by decide +kernel
theorem d_Model_lessNumber_46 : decode prog_13_method_12_code 46 = .ok (.sipush 32767, 3) := by decide +kernel
theorem d_Model_lessNumber_49 : decode prog_13_method_12_code 49 = .ok (.iand, 1) := by decide +kernel
theorem d_Model_lessNumber_50 : decode prog_13_method_12_code 50 = .ok (.iastore, 1) := by decide +kernel
theorem d_Model_lessNumber_51 : decode prog_13_method_12_code 51 = .ok (.iload_n 3, 1) := by decide +kernel
theorem d_Model_lessNumber_52 : decode prog_13_method_12_code 52 = .ok (.bipush 15, 2) := by decide +kernel
theorem d_Model_lessNumber_54 : decode prog_13_method_12_code 54 = .ok (.ishr, 1) := by decide +kernel
theorem d_Model_lessNumber_55 : decode prog_13_method_12_code 55 = .ok (.istore_n 3, 1) := by decide +kernel
theorem d_Model_lessNumber_56 : decode prog_13_method_12_code 56 = .ok (.iinc 4 1, 3) := by decide +kernel
theorem d_Model_lessNumber_59 : decode prog_13_method_12_code 59 = .ok (.goto (-54), 3) := by decide +kernel
theorem d_Model_lessNumber_62 : decode prog_13_method_12_code 62 = .ok (.aload_n 0, 1) := by decide +kernel
theorem d_Model_lessNumber_63 : decode prog_13_method_12_code 63 = .ok (.iload_n 1, 1) := by decide +kernel
theorem d_Model_lessNumber_64 : decode prog_13_method_12_code 64 = .ok (.invokevirtual 95, 3) := by decide +kernel
theorem d_Model_lessNumber_67 : decode prog_13_method_12_code 67 = .ok (.return_, 1) := by decide +kernel
noncomputable def M_Model_lessNumber_b5 (x1 : Int32) (x2 : Int32) (x3 : Int32) (x4 : Int32) (u : gSt) : Option ((Int32 × Int32 × Int32 × Int32 × gSt) ⊕ ((Int32 × gSt))) :=
  gc (gIn x1 (gLen 56)) <| if (u.2.2.1 56 (gIx x1)) ≤ x4 then
    (some (.inr (x1, u)))
  else
    ((M_Model_digit x1 x4 u).bind fun q21 =>
    (M_Model_digit x2 x4 q21.2).bind fun q28 =>
    gc (gIn (((48 : Int32) * x1) + x4) (gLen 55)) <| (some (gsA q28.2 55 (gIx (((48 : Int32) * x1) + x4)) ((x3 + (q21.1 - q28.1)) &&& (32767 : Int32)))).bind fun u50 =>
    some (.inl (x1, x2, (x3 + (q21.1 - q28.1)) >>> ((15 : Int32) &&& (31 : Int32)), x4 + (1 : Int32), u50)))
set_option maxHeartbeats 4000000 in
set_option maxRecDepth 100000 in
theorem t_Model_lessNumber_b5 (C : gX "TermDeskModel" prog_13_method_12_code 5 none 1 22 R cells slots cy D ρ A p s m args meth c) {x1 : Int32} {x2 : Int32} {x3 : Int32} {x4 : Int32} {u : gSt} {z : (Int32 × Int32 × Int32 × Int32 × gSt) ⊕ ((Int32 × gSt))} (hM : M_Model_lessNumber_b5 x1 x2 x3 x4 u = some z) (hN : ∀ x1' x2' x3' x4' u', z = .inl (x1', x2', x3', x4', u') → gAt p l e R s m args below meth c Q H0 cells slots cy D ρ A 5 5 [(0, .ref (ρ 42)), (1, .int (x1')), (2, .int (x2')), (3, .int (x3')), (4, .int (x4'))] [] (u')) (hE0 : ∀ x1' u', z = .inr (x1', u') → gAt p l e R s m args below meth c Q H0 cells slots cy D ρ A 5 62 [(0, .ref (ρ 42)), (1, .int (x1'))] [] (u')) : gAt p l e R s m args below meth c Q H0 cells slots cy D ρ A 5 5 [(0, .ref (ρ 42)), (1, .int x1), (2, .int x2), (3, .int x3), (4, .int x4)] [] u := by
  intro ls H locs hl hP hS
  have hx := C.1
  have hb := C.2.1
  unfold M_Model_lessNumber_b5 at hM
  refine lv_iload hx hb d_Model_lessNumber_5 (lv_at hl 4 rfl) ?_
  refine lv_aload_n hx hb d_Model_lessNumber_7 rfl (lv_at hl 0 rfl) ?_
  refine g_getR (b := 56) C hP gl_DeskModel_56 rfl rfl rfl d_Model_lessNumber_8 ?_
  refine lv_iload_n hx hb d_Model_lessNumber_11 rfl (lv_at hl 1 rfl) ?_
  obtain ⟨hi12, hM⟩ := gc_some hM
  refine g_iald C hP rfl hi12 d_Model_lessNumber_12 ?_
  refine lv_icmp_ge (tgt := 62) hx hb d_Model_lessNumber_13 (by decide) (fun hc13 => ?_) (fun hc13 => ?_)
  · replace hM := gi_t hc13 hM
    exact hE0 _ _ (Option.some.inj hM).symm ls H locs (lv_sub hl [0, 1] rfl) hP hS
  · replace hM := gi_f hc13 hM
    refine lv_iload_n hx hb d_Model_lessNumber_16 rfl (lv_at hl 3 rfl) ?_
    refine lv_aload_n hx hb d_Model_lessNumber_17 rfl (lv_at hl 0 rfl) ?_
    refine lv_iload_n hx hb d_Model_lessNumber_18 rfl (lv_at hl 1 rfl) ?_
    refine lv_iload hx hb d_Model_lessNumber_19 (lv_at hl 4 rfl) ?_
    obtain ⟨q21, hq21, hM⟩ := gb_some hM
    refine g_backI (g_runV (As := [.int x1, .int x4]) C hP (c_Model_digit C.2.2.2.2.2.2.2.2.1 hq21) gi_Model_digit gm_Model_89 rfl rfl (by decide) (by decide) hl.1 rfl (Nat.le_of_ble_eq_true rfl) d_Model_lessNumber_21) hS (fun H locs hP hS => ?_)
    refine lv_aload_n hx hb d_Model_lessNumber_24 rfl (lv_at hl 0 rfl) ?_
    refine lv_iload_n hx hb d_Model_lessNumber_25 rfl (lv_at hl 2 rfl) ?_
    refine lv_iload hx hb d_Model_lessNumber_26 (lv_at hl 4 rfl) ?_
    obtain ⟨q28, hq28, hM⟩ := gb_some hM
    refine g_backI (g_runV (As := [.int x2, .int x4]) C hP (c_Model_digit C.2.2.2.2.2.2.2.2.1 hq28) gi_Model_digit gm_Model_89 rfl rfl (by decide) (by decide) hl.1 rfl (Nat.le_of_ble_eq_true rfl) d_Model_lessNumber_28) hS (fun H locs hP hS => ?_)
    refine lv_isub hx hb d_Model_lessNumber_31 ?_
    refine lv_iadd hx hb d_Model_lessNumber_32 ?_
    refine lv_istore_n (lv' := [(3, .int (x3 + (q21.1 - q28.1))), (0, .ref (ρ 42)), (1, .int x1), (2, .int x2), (4, .int x4)]) hx hb d_Model_lessNumber_33 rfl hl (by decide) rfl (fun ls hl => ?_)
    refine lv_aload_n hx hb d_Model_lessNumber_34 rfl (lv_at hl 1 rfl) ?_
    refine g_getR (b := 55) C hP gl_DeskModel_53 rfl rfl rfl d_Model_lessNumber_35 ?_
    refine lv_bipush (v := (48 : Int32)) hx hb d_Model_lessNumber_38 (by decide) ?_
    refine lv_iload_n hx hb d_Model_lessNumber_40 rfl (lv_at hl 2 rfl) ?_
    refine lv_imul hx hb d_Model_lessNumber_41 ?_
    refine lv_iload hx hb d_Model_lessNumber_42 (lv_at hl 4 rfl) ?_
    refine lv_iadd hx hb d_Model_lessNumber_44 ?_
    refine lv_iload_n hx hb d_Model_lessNumber_45 rfl (lv_at hl 0 rfl) ?_
    refine lv_sipush (v := (32767 : Int32)) hx hb d_Model_lessNumber_46 (by decide) ?_
    refine lv_iand hx hb d_Model_lessNumber_49 ?_
    obtain ⟨hi50, hM⟩ := gc_some hM
    obtain ⟨u50, e50, hM⟩ := gb_some hM
    refine g_iast C hP hS rfl hi50 d_Model_lessNumber_50 (fun H locs hP hS => ?_)
    rw [Option.some.inj e50] at hP
    refine lv_iload_n hx hb d_Model_lessNumber_51 rfl (lv_at hl 0 rfl) ?_
    refine lv_bipush (v := (15 : Int32)) hx hb d_Model_lessNumber_52 (by decide) ?_
    refine lv_ishr hx hb d_Model_lessNumber_54 ?_
    refine lv_istore_n (lv' := [(3, .int ((x3 + (q21.1 - q28.1)) >>> ((15 : Int32) &&& (31 : Int32)))), (0, .ref (ρ 42)), (1, .int x1), (2, .int x2), (4, .int x4)]) hx hb d_Model_lessNumber_55 rfl hl (by decide) rfl (fun ls hl => ?_)
    refine lv_iinc (k := 4) (v := x4 + (1 : Int32)) (lv' := [(4, .int (x4 + (1 : Int32))), (3, .int ((x3 + (q21.1 - q28.1)) >>> ((15 : Int32) &&& (31 : Int32)))), (0, .ref (ρ 42)), (1, .int x1), (2, .int x2)]) hx hb d_Model_lessNumber_56 hl rfl (congrArg (fun z => x4 + z) (by decide)) (by decide) rfl (fun ls hl => ?_)
    refine lv_goto (tgt := 5) hx hb d_Model_lessNumber_59 (by decide) ?_
    exact hN _ _ _ _ _ (Option.some.inj hM).symm ls H locs (lv_sub hl [2, 3, 4, 1, 0] rfl) hP hS
noncomputable def M_Model_lessNumber_L5 : (Int32 × Int32 × Int32 × Int32 × gSt) → Option ((Int32 × Int32 × Int32 × Int32 × gSt) ⊕ ((Int32 × gSt))) := fun x => M_Model_lessNumber_b5 x.1 x.2.1 x.2.2.1 x.2.2.2.1 x.2.2.2.2
theorem t_Model_lessNumber_L5 (C : gX "TermDeskModel" prog_13_method_12_code 5 none 1 22 R cells slots cy D ρ A p s m args meth c) {x1 : Int32} {x2 : Int32} {x3 : Int32} {x4 : Int32} {u : gSt} {yy : (Int32 × gSt)} (hL : gLp M_Model_lessNumber_L5 (x1, x2, x3, x4, u) = some yy) (hE0 : (∀ y', yy = y' → gAt p l e R s m args below meth c Q H0 cells slots cy D ρ A 5 62 [(0, .ref (ρ 42)), (1, .int (y'.1))] [] (y'.2))) : gAt p l e R s m args below meth c Q H0 cells slots cy D ρ A 5 5 [(0, .ref (ρ 42)), (1, .int x1), (2, .int x2), (3, .int x3), (4, .int x4)] [] u :=
  g_loop (f := M_Model_lessNumber_L5) (P := fun x => gAt p l e R s m args below meth c Q H0 cells slots cy D ρ A 5 5 [(0, .ref (ρ 42)), (1, .int x.1), (2, .int x.2.1), (3, .int x.2.2.1), (4, .int x.2.2.2.1)] [] x.2.2.2.2) (E := fun yy => (∀ y', yy = y' → gAt p l e R s m args below meth c Q H0 cells slots cy D ρ A 5 62 [(0, .ref (ρ 42)), (1, .int (y'.1))] [] (y'.2))) (fun x z hf hN hE => t_Model_lessNumber_b5 C hf (fun x1' x2' x3' x4' u' h => hN (x1', x2', x3', x4', u') h) (fun x1' u' h => (hE _ h) (x1', u') rfl)) hL hE0
noncomputable def M_Model_lessNumber (x1 : Int32) (x2 : Int32) (u : gSt) : Option (gSt) :=
  (gLp M_Model_lessNumber_L5 (x1, x2, (0 : Int32), (0 : Int32), u)).bind fun y5 =>
  (M_Model_trimNumber y5.1 y5.2).bind fun q64 =>
  some q64
set_option maxHeartbeats 4000000 in
set_option maxRecDepth 100000 in
theorem t_Model_lessNumber (C : gX "TermDeskModel" prog_13_method_12_code 5 none 1 22 R cells slots cy D ρ A p s m args meth c) {x1 : Int32} {x2 : Int32} {u : gSt} {z : gSt} (hM : M_Model_lessNumber x1 x2 u = some z) (hR : gRtV p l e R s m args below meth c Q H0 cells slots cy D ρ A prog_13_method_12_code z) : gAt p l e R s m args below meth c Q H0 cells slots cy D ρ A 5 0 [(0, .ref (ρ 42)), (1, .int x1), (2, .int x2)] [] u := by
  intro ls H locs hl hP hS
  have hx := C.1
  have hb := C.2.1
  unfold M_Model_lessNumber at hM
  refine lv_iconst (v := (0 : Int32)) hx hb d_Model_lessNumber_0 (by decide) ?_
  refine lv_istore_n (lv' := [(3, .int (0 : Int32)), (0, .ref (ρ 42)), (1, .int x1), (2, .int x2)]) hx hb d_Model_lessNumber_1 rfl hl (by decide) rfl (fun ls hl => ?_)
  refine lv_iconst (v := (0 : Int32)) hx hb d_Model_lessNumber_2 (by decide) ?_
  refine lv_istore (lv' := [(4, .int (0 : Int32)), (3, .int (0 : Int32)), (0, .ref (ρ 42)), (1, .int x1), (2, .int x2)]) hx hb d_Model_lessNumber_3 hl (by decide) rfl (fun ls hl => ?_)
  obtain ⟨y5, hL5, hM⟩ := gb_some hM
  refine t_Model_lessNumber_L5 C hL5 (fun y5_0 hy => ?_) ls H locs (lv_sub hl [2, 3, 4, 1, 0] rfl) hP hS
  · subst hy
    intro ls H locs hl hP hS
    refine lv_aload_n hx hb d_Model_lessNumber_62 rfl (lv_at hl 0 rfl) ?_
    refine lv_iload_n hx hb d_Model_lessNumber_63 rfl (lv_at hl 1 rfl) ?_
    obtain ⟨q64, hq64, hM⟩ := gb_some hM
    refine g_backV (g_runV (As := [.int y5.1]) C hP (c_Model_trimNumber C.2.2.2.2.2.2.2.2.1 hq64) gi_Model_trimNumber gm_Model_95 rfl rfl (by decide) (by decide) hl.1 rfl (Nat.le_of_ble_eq_true rfl) d_Model_lessNumber_64) hS (fun H locs hP hS => ?_)
    obtain rfl := Option.some.inj hM
    exact hR _ ls H locs d_Model_lessNumber_67 hP hS
theorem c_Model_lessNumber {l : Launch} {cy : Nat → ClassId} {D : va_G} {ρ : Nat → Nat} {A : Nat → Prop} (hD : gD ρ A) {x1 : Int32} {x2 : Int32} {u : gSt} {z : gSt} (hM : M_Model_lessNumber x1 x2 u = some z) : gCtV l y_Model_lessNumber prog_13_method_12_code 5 none 1 22 cy D ρ A [.ref (ρ 42), .int x1, .int x2] u z :=
  g_met (by decide) hD (Nat.le_of_ble_eq_true rfl) (fun p e s m below meth c ls X hl hP => t_Model_lessNumber X hM (fun pc ls H locs hd hP hS => g_vret X hP hS hd) ls _ [] hl hP va_S.rf)
end
section
variable {p : Program} {l : Launch} {e : Env} {R : Room} {s : State} {m : MethodId} {args : Array Value} {below : List Frame} {meth : Method} {c : Code} {Q : State → Prop} {H0 : Heap} {cells slots : Nat} {cy : Nat → ClassId} {D : va_G} {ρ : Nat → Nat} {A : Nat → Prop}
def y_Model_product : MethodName := ⟨"TermDeskModel", "product", "(III)V"⟩
theorem gi_Model_product : gMi y_Model_product prog_13_method_13_code 5 none 3 8 := ⟨(gWs_at 1334 (by decide +kernel) (by decide +kernel)), (gWs_at 1333 (by decide +kernel) (by decide +kernel)), (gWs_at 99 (by decide +kernel) (by decide +kernel)), (gWs_at 125 (by decide +kernel) (by decide +kernel)), ⟨by decide +kernel, by decide +kernel, by decide +kernel⟩, _, _, rfl⟩
theorem gm_Model_259 : gMk "TermDeskModel" 259 y_Model_product := Or.inl (gWs_at 1331 (by decide +kernel) (by decide +kernel))
theorem d_Model_product_0 : decode prog_13_method_13_code 0 = .ok (.aload_n 0, 1) := by decide +kernel
theorem d_Model_product_1 : decode prog_13_method_13_code 1 = .ok (.getfield 56, 3) := by decide +kernel
theorem d_Model_product_4 : decode prog_13_method_13_code 4 = .ok (.iload_n 1, 1) := by decide +kernel
theorem d_Model_product_5 : decode prog_13_method_13_code 5 = .ok (.iconst 0, 1) := by decide +kernel
theorem d_Model_product_6 : decode prog_13_method_13_code 6 = .ok (.iastore, 1) := by decide +kernel
theorem d_Model_product_7 : decode prog_13_method_13_code 7 = .ok (.aload_n 0, 1) := by decide +kernel
theorem d_Model_product_8 : decode prog_13_method_13_code 8 = .ok (.getfield 56, 3) := by decide +kernel
theorem d_Model_product_11 : decode prog_13_method_13_code 11 = .ok (.iload_n 2, 1) := by decide +kernel
theorem d_Model_product_12 : decode prog_13_method_13_code 12 = .ok (.iaload, 1) := by decide +kernel
theorem d_Model_product_13 : decode prog_13_method_13_code 13 = .ok (.iconst 1, 1) := by decide +kernel
theorem d_Model_product_14 : decode prog_13_method_13_code 14 = .ok (.isub, 1) := by decide +kernel
theorem d_Model_product_15 : decode prog_13_method_13_code 15 = .ok (.istore 4, 2) := by decide +kernel
theorem d_Model_product_17 : decode prog_13_method_13_code 17 = .ok (.iload 4, 2) := by decide +kernel
theorem d_Model_product_19 : decode prog_13_method_13_code 19 = .ok (.ifCond .lt 31, 3) := by decide +kernel
theorem d_Model_product_22 : decode prog_13_method_13_code 22 = .ok (.aload_n 0, 1) := by decide +kernel
theorem d_Model_product_23 : decode prog_13_method_13_code 23 = .ok (.iload_n 1, 1) := by decide +kernel
theorem d_Model_product_24 : decode prog_13_method_13_code 24 = .ok (.ldc2_w 102, 3) := by decide +kernel
theorem d_Model_product_27 : decode prog_13_method_13_code 27 = .ok (.lconst 0, 1) := by decide +kernel
theorem d_Model_product_28 : decode prog_13_method_13_code 28 = .ok (.invokevirtual 104, 3) := by decide +kernel
theorem d_Model_product_31 : decode prog_13_method_13_code 31 = .ok (.aload_n 0, 1) := by decide +kernel
theorem d_Model_product_32 : decode prog_13_method_13_code 32 = .ok (.iload_n 1, 1) := by decide +kernel
theorem d_Model_product_33 : decode prog_13_method_13_code 33 = .ok (.iload_n 3, 1) := by decide +kernel
theorem d_Model_product_34 : decode prog_13_method_13_code 34 = .ok (.aload_n 0, 1) := by decide +kernel
theorem d_Model_product_35 : decode prog_13_method_13_code 35 = .ok (.iload_n 2, 1) := by decide +kernel
theorem d_Model_product_36 : decode prog_13_method_13_code 36 = .ok (.iload 4, 2) := by decide +kernel
theorem d_Model_product_38 : decode prog_13_method_13_code 38 = .ok (.invokevirtual 89, 3) := by decide +kernel
theorem d_Model_product_41 : decode prog_13_method_13_code 41 = .ok (.invokevirtual 108, 3) := by decide +kernel
theorem d_Model_product_44 : decode prog_13_method_13_code 44 = .ok (.iinc 4 (-1), 3) := by decide +kernel
theorem d_Model_product_47 : decode prog_13_method_13_code 47 = .ok (.goto (-30), 3) := by decide +kernel
theorem d_Model_product_50 : decode prog_13_method_13_code 50 = .ok (.return_, 1) := by decide +kernel
noncomputable def M_Model_product_b17 (x1 : Int32) (x2 : Int32) (x3 : Int32) (x4 : Int32) (u : gSt) : Option ((Int32 × Int32 × Int32 × Int32 × gSt) ⊕ ((gSt))) :=
  if x4 < (0 : Int32) then
    (some (.inr u))
  else
    ((M_Model_grow x1 (32768 : Int64) (0 : Int64) u).bind fun q28 =>
    (M_Model_digit x2 x4 q28).bind fun q38 =>
    (M_Model_addNumber x1 x3 q38.1 q38.2).bind fun q41 =>
    some (.inl (x1, x2, x3, x4 + (-1 : Int32), q41)))
set_option maxHeartbeats 4000000 in
set_option maxRecDepth 100000 in
theorem t_Model_product_b17 (C : gX "TermDeskModel" prog_13_method_13_code 5 none 2 50 R cells slots cy D ρ A p s m args meth c) {x1 : Int32} {x2 : Int32} {x3 : Int32} {x4 : Int32} {u : gSt} {z : (Int32 × Int32 × Int32 × Int32 × gSt) ⊕ ((gSt))} (hM : M_Model_product_b17 x1 x2 x3 x4 u = some z) (hN : ∀ x1' x2' x3' x4' u', z = .inl (x1', x2', x3', x4', u') → gAt p l e R s m args below meth c Q H0 cells slots cy D ρ A 5 17 [(0, .ref (ρ 42)), (1, .int (x1')), (2, .int (x2')), (3, .int (x3')), (4, .int (x4'))] [] (u')) (hE0 : ∀ u', z = .inr u' → gAt p l e R s m args below meth c Q H0 cells slots cy D ρ A 5 50 [] [] (u')) : gAt p l e R s m args below meth c Q H0 cells slots cy D ρ A 5 17 [(0, .ref (ρ 42)), (1, .int x1), (2, .int x2), (3, .int x3), (4, .int x4)] [] u := by
  intro ls H locs hl hP hS
  have hx := C.1
  have hb := C.2.1
  unfold M_Model_product_b17 at hM
  refine lv_iload hx hb d_Model_product_17 (lv_at hl 4 rfl) ?_
  refine lv_if_lt (tgt := 50) hx hb d_Model_product_19 (by decide) (fun hc19 => ?_) (fun hc19 => ?_)
  · replace hM := gi_t hc19 hM
    exact hE0 _ (Option.some.inj hM).symm ls H locs (lv_sub hl [] rfl) hP hS
  · replace hM := gi_f hc19 hM
    refine lv_aload_n hx hb d_Model_product_22 rfl (lv_at hl 0 rfl) ?_
    refine lv_iload_n hx hb d_Model_product_23 rfl (lv_at hl 1 rfl) ?_
    refine lv_ldc2 (v := 32768) hx hb C.2.2.2.2.1 (C.2.2.2.2.2.1 _ (gWs_at 1335 (by decide +kernel) (by decide +kernel))) d_Model_product_24 ?_
    refine lv_lconst (v := 0) hx hb d_Model_product_27 (by decide) ?_
    obtain ⟨q28, hq28, hM⟩ := gb_some hM
    refine g_backV (g_runV (As := [.int x1, .long (32768 : Int64), .long (0 : Int64)]) C hP (c_Model_grow C.2.2.2.2.2.2.2.2.1 hq28) gi_Model_grow gm_Model_104 rfl rfl (by decide) (by decide) hl.1 rfl (Nat.le_of_ble_eq_true rfl) d_Model_product_28) hS (fun H locs hP hS => ?_)
    refine lv_aload_n hx hb d_Model_product_31 rfl (lv_at hl 0 rfl) ?_
    refine lv_iload_n hx hb d_Model_product_32 rfl (lv_at hl 1 rfl) ?_
    refine lv_iload_n hx hb d_Model_product_33 rfl (lv_at hl 3 rfl) ?_
    refine lv_aload_n hx hb d_Model_product_34 rfl (lv_at hl 0 rfl) ?_
    refine lv_iload_n hx hb d_Model_product_35 rfl (lv_at hl 2 rfl) ?_
    refine lv_iload hx hb d_Model_product_36 (lv_at hl 4 rfl) ?_
    obtain ⟨q38, hq38, hM⟩ := gb_some hM
    refine g_backI (g_runV (As := [.int x2, .int x4]) C hP (c_Model_digit C.2.2.2.2.2.2.2.2.1 hq38) gi_Model_digit gm_Model_89 rfl rfl (by decide) (by decide) hl.1 rfl (Nat.le_of_ble_eq_true rfl) d_Model_product_38) hS (fun H locs hP hS => ?_)
    obtain ⟨q41, hq41, hM⟩ := gb_some hM
    refine g_backV (g_runV (As := [.int x1, .int x3, .int q38.1]) C hP (c_Model_addNumber C.2.2.2.2.2.2.2.2.1 hq41) gi_Model_addNumber gm_Model_108 rfl rfl (by decide) (by decide) hl.1 rfl (Nat.le_of_ble_eq_true rfl) d_Model_product_41) hS (fun H locs hP hS => ?_)
    refine lv_iinc (k := 4) (v := x4 + (-1 : Int32)) (lv' := [(4, .int (x4 + (-1 : Int32))), (0, .ref (ρ 42)), (1, .int x1), (2, .int x2), (3, .int x3)]) hx hb d_Model_product_44 hl rfl (congrArg (fun z => x4 + z) (by decide)) (by decide) rfl (fun ls hl => ?_)
    refine lv_goto (tgt := 17) hx hb d_Model_product_47 (by decide) ?_
    exact hN _ _ _ _ _ (Option.some.inj hM).symm ls H locs (lv_sub hl [1, 2, 3, 4, 0] rfl) hP hS
noncomputable def M_Model_product_L17 : (Int32 × Int32 × Int32 × Int32 × gSt) → Option ((Int32 × Int32 × Int32 × Int32 × gSt) ⊕ ((gSt))) := fun x => M_Model_product_b17 x.1 x.2.1 x.2.2.1 x.2.2.2.1 x.2.2.2.2
theorem t_Model_product_L17 (C : gX "TermDeskModel" prog_13_method_13_code 5 none 2 50 R cells slots cy D ρ A p s m args meth c) {x1 : Int32} {x2 : Int32} {x3 : Int32} {x4 : Int32} {u : gSt} {yy : (gSt)} (hL : gLp M_Model_product_L17 (x1, x2, x3, x4, u) = some yy) (hE0 : (∀ y', yy = y' → gAt p l e R s m args below meth c Q H0 cells slots cy D ρ A 5 50 [] [] (y'))) : gAt p l e R s m args below meth c Q H0 cells slots cy D ρ A 5 17 [(0, .ref (ρ 42)), (1, .int x1), (2, .int x2), (3, .int x3), (4, .int x4)] [] u :=
  g_loop (f := M_Model_product_L17) (P := fun x => gAt p l e R s m args below meth c Q H0 cells slots cy D ρ A 5 17 [(0, .ref (ρ 42)), (1, .int x.1), (2, .int x.2.1), (3, .int x.2.2.1), (4, .int x.2.2.2.1)] [] x.2.2.2.2) (E := fun yy => (∀ y', yy = y' → gAt p l e R s m args below meth c Q H0 cells slots cy D ρ A 5 50 [] [] (y'))) (fun x z hf hN hE => t_Model_product_b17 C hf (fun x1' x2' x3' x4' u' h => hN (x1', x2', x3', x4', u') h) (fun u' h => (hE _ h) u' rfl)) hL hE0
noncomputable def M_Model_product (x1 : Int32) (x2 : Int32) (x3 : Int32) (u : gSt) : Option (gSt) :=
  gc (gIn x1 (gLen 56)) <| (some (gsA u 56 (gIx x1) (0 : Int32))).bind fun u6 =>
  gc (gIn x2 (gLen 56)) <| (gLp M_Model_product_L17 (x1, x2, x3, (u6.2.2.1 56 (gIx x2)) - (1 : Int32), u6)).bind fun y17 =>
  some y17
set_option maxHeartbeats 4000000 in
set_option maxRecDepth 100000 in
theorem t_Model_product (C : gX "TermDeskModel" prog_13_method_13_code 5 none 2 50 R cells slots cy D ρ A p s m args meth c) {x1 : Int32} {x2 : Int32} {x3 : Int32} {u : gSt} {z : gSt} (hM : M_Model_product x1 x2 x3 u = some z) (hR : gRtV p l e R s m args below meth c Q H0 cells slots cy D ρ A prog_13_method_13_code z) : gAt p l e R s m args below meth c Q H0 cells slots cy D ρ A 5 0 [(0, .ref (ρ 42)), (1, .int x1), (2, .int x2), (3, .int x3)] [] u := by
  intro ls H locs hl hP hS
  have hx := C.1
  have hb := C.2.1
  unfold M_Model_product at hM
  refine lv_aload_n hx hb d_Model_product_0 rfl (lv_at hl 0 rfl) ?_
  refine g_getR (b := 56) C hP gl_DeskModel_56 rfl rfl rfl d_Model_product_1 ?_
  refine lv_iload_n hx hb d_Model_product_4 rfl (lv_at hl 1 rfl) ?_
  refine lv_iconst (v := (0 : Int32)) hx hb d_Model_product_5 (by decide) ?_
  obtain ⟨hi6, hM⟩ := gc_some hM
  obtain ⟨u6, e6, hM⟩ := gb_some hM
  refine g_iast C hP hS rfl hi6 d_Model_product_6 (fun H locs hP hS => ?_)
  rw [Option.some.inj e6] at hP
  refine lv_aload_n hx hb d_Model_product_7 rfl (lv_at hl 0 rfl) ?_
  refine g_getR (b := 56) C hP gl_DeskModel_56 rfl rfl rfl d_Model_product_8 ?_
  refine lv_iload_n hx hb d_Model_product_11 rfl (lv_at hl 2 rfl) ?_
  obtain ⟨hi12, hM⟩ := gc_some hM
  refine g_iald C hP rfl hi12 d_Model_product_12 ?_
  refine lv_iconst (v := (1 : Int32)) hx hb d_Model_product_13 (by decide) ?_
  refine lv_isub hx hb d_Model_product_14 ?_
  refine lv_istore (lv' := [(4, .int ((u6.2.2.1 56 (gIx x2)) - (1 : Int32))), (0, .ref (ρ 42)), (1, .int x1), (2, .int x2), (3, .int x3)]) hx hb d_Model_product_15 hl (by decide) rfl (fun ls hl => ?_)
  obtain ⟨y17, hL17, hM⟩ := gb_some hM
  refine t_Model_product_L17 C hL17 (fun y17_0 hy => ?_) ls H locs (lv_sub hl [1, 2, 3, 4, 0] rfl) hP hS
  · subst hy
    intro ls H locs hl hP hS
    obtain rfl := Option.some.inj hM
    exact hR _ ls H locs d_Model_product_50 hP hS
theorem c_Model_product {l : Launch} {cy : Nat → ClassId} {D : va_G} {ρ : Nat → Nat} {A : Nat → Prop} (hD : gD ρ A) {x1 : Int32} {x2 : Int32} {x3 : Int32} {u : gSt} {z : gSt} (hM : M_Model_product x1 x2 x3 u = some z) : gCtV l y_Model_product prog_13_method_13_code 5 none 2 50 cy D ρ A [.ref (ρ 42), .int x1, .int x2, .int x3] u z :=
  g_met (by decide) hD (Nat.le_of_ble_eq_true rfl) (fun p e s m below meth c ls X hl hP => t_Model_product X hM (fun pc ls H locs hd hP hS => g_vret X hP hS hd) ls _ [] hl hP va_S.rf)
end
section
variable {p : Program} {l : Launch} {e : Env} {R : Room} {s : State} {m : MethodId} {args : Array Value} {below : List Frame} {meth : Method} {c : Code} {Q : State → Prop} {H0 : Heap} {cells slots : Nat} {cy : Nat → ClassId} {D : va_G} {ρ : Nat → Nat} {A : Nat → Prop}
def y_Model_quotient : MethodName := ⟨"TermDeskModel", "quotient", "(III)V"⟩
theorem gi_Model_quotient : gMi y_Model_quotient prog_13_method_14_code 6 none 3 8 := ⟨(gWs_at 1395 (by decide +kernel) (by decide +kernel)), (gWs_at 1394 (by decide +kernel) (by decide +kernel)), (gWs_at 112 (by decide +kernel) (by decide +kernel)), (gWs_at 125 (by decide +kernel) (by decide +kernel)), ⟨by decide +kernel, by decide +kernel, by decide +kernel⟩, _, _, rfl⟩
theorem gm_Model_306 : gMk "TermDeskModel" 306 y_Model_quotient := Or.inl (gWs_at 1392 (by decide +kernel) (by decide +kernel))
theorem d_Model_quotient_0 : decode prog_13_method_14_code 0 = .ok (.aload_n 0, 1) := by decide +kernel
theorem d_Model_quotient_1 : decode prog_13_method_14_code 1 = .ok (.bipush 7, 2) := by decide +kernel
theorem d_Model_quotient_3 : decode prog_13_method_14_code 3 = .ok (.iload_n 2, 1) := by decide +kernel
theorem d_Model_quotient_4 : decode prog_13_method_14_code 4 = .ok (.invokevirtual 112, 3) := by decide +kernel
theorem d_Model_quotient_7 : decode prog_13_method_14_code 7 = .ok (.aload_n 0, 1) := by decide +kernel
theorem d_Model_quotient_8 : decode prog_13_method_14_code 8 = .ok (.iload_n 2, 1) := by decide +kernel
theorem d_Model_quotient_9 : decode prog_13_method_14_code 9 = .ok (.iconst 0, 1) := by decide +kernel
theorem d_Model_quotient_10 : decode prog_13_method_14_code 10 = .ok (.invokevirtual 116, 3) := by decide +kernel
theorem d_Model_quotient_13 : decode prog_13_method_14_code 13 = .ok (.aload_n 0, 1) := by decide +kernel
theorem d_Model_quotient_14 : decode prog_13_method_14_code 14 = .ok (.getfield 56, 3) := by decide +kernel
theorem d_Model_quotient_17 : decode prog_13_method_14_code 17 = .ok (.iload_n 1, 1) := by decide +kernel
theorem d_Model_quotient_18 : decode prog_13_method_14_code 18 = .ok (.iconst 0, 1) := by decide +kernel
theorem d_Model_quotient_19 : decode prog_13_method_14_code 19 = .ok (.iastore, 1) := by decide +kernel
theorem d_Model_quotient_20 : decode prog_13_method_14_code 20 = .ok (.bipush 15, 2) := by decide +kernel
theorem d_Model_quotient_22 : decode prog_13_method_14_code 22 = .ok (.aload_n 0, 1) := by decide +kernel
theorem d_Model_quotient_23 : decode prog_13_method_14_code 23 = .ok (.getfield 56, 3) := by decide +kernel
theorem d_Model_quotient_26 : decode prog_13_method_14_code 26 = .ok (.bipush 7, 2) := by decide +kernel
theorem d_Model_quotient_28 : decode prog_13_method_14_code 28 = .ok (.iaload, 1) := by decide +kernel
theorem d_Model_quotient_29 : decode prog_13_method_14_code 29 = .ok (.imul, 1) := by decide +kernel
theorem d_Model_quotient_30 : decode prog_13_method_14_code 30 = .ok (.iconst 1, 1) := by decide +kernel
theorem d_Model_quotient_31 : decode prog_13_method_14_code 31 = .ok (.isub, 1) := by decide +kernel
theorem d_Model_quotient_32 : decode prog_13_method_14_code 32 = .ok (.istore 4, 2) := by decide +kernel
theorem d_Model_quotient_34 : decode prog_13_method_14_code 34 = .ok (.iload 4, 2) := by decide +kernel
theorem d_Model_quotient_36 : decode prog_13_method_14_code 36 = .ok (.ifCond .lt 82, 3) := by decide +kernel
theorem d_Model_quotient_39 : decode prog_13_method_14_code 39 = .ok (.aload_n 0, 1) := by decide +kernel
theorem d_Model_quotient_40 : decode prog_13_method_14_code 40 = .ok (.iload_n 2, 1) := by decide +kernel
theorem d_Model_quotient_41 : decode prog_13_method_14_code 41 = .ok (.ldc2_w 119, 3) := by decide +kernel
theorem d_Model_quotient_44 : decode prog_13_method_14_code 44 = .ok (.aload_n 0, 1) := by decide +kernel
theorem d_Model_quotient_45 : decode prog_13_method_14_code 45 = .ok (.bipush 7, 2) := by decide +kernel
theorem d_Model_quotient_47 : decode prog_13_method_14_code 47 = .ok (.iload 4, 2) := by decide +kernel
theorem d_Model_quotient_49 : decode prog_13_method_14_code 49 = .ok (.bipush 15, 2) := by decide +kernel
theorem d_Model_quotient_51 : decode prog_13_method_14_code 51 = .ok (.idiv, 1) := by decide +kernel
theorem d_Model_quotient_52 : decode prog_13_method_14_code 52 = .ok (.invokevirtual 89, 3) := by decide +kernel
theorem d_Model_quotient_55 : decode prog_13_method_14_code 55 = .ok (.iload 4, 2) := by decide +kernel
theorem d_Model_quotient_57 : decode prog_13_method_14_code 57 = .ok (.bipush 15, 2) := by decide +kernel
theorem d_Model_quotient_59 : decode prog_13_method_14_code 59 = .ok (.irem, 1) := by decide +kernel
theorem d_Model_quotient_60 : decode prog_13_method_14_code 60 = .ok (.ishr, 1) := by decide +kernel
theorem d_Model_quotient_61 : decode prog_13_method_14_code 61 = .ok (.iconst 1, 1) := by decide +kernel
theorem d_Model_quotient_62 : decode prog_13_method_14_code 62 = .ok (.iand, 1) := by decide +kernel
theorem d_Model_quotient_63 : decode prog_13_method_14_code 63 = .ok (.i2l, 1) := by decide +kernel
theorem d_Model_quotient_64 : decode prog_13_method_14_code 64 = .ok (.invokevirtual 104, 3) := by decide +kernel
theorem d_Model_quotient_67 : decode prog_13_method_14_code 67 = .ok (.aload_n 0, 1) := by decide +kernel
theorem d_Model_quotient_68 : decode prog_13_method_14_code 68 = .ok (.iload_n 2, 1) := by decide +kernel
theorem d_Model_quotient_69 : decode prog_13_method_14_code 69 = .ok (.iload_n 3, 1) := by decide +kernel
theorem d_Model_quotient_70 : decode prog_13_method_14_code 70 = .ok (.invokevirtual 121, 3) := by decide +kernel
theorem d_Model_quotient_73 : decode prog_13_method_14_code 73 = .ok (.ifCond .lt 7, 3) := by decide +kernel
theorem d_Model_quotient_76 : decode prog_13_method_14_code 76 = .ok (.iconst 1, 1) := by decide +kernel
theorem d_Model_quotient_77 : decode prog_13_method_14_code 77 = .ok (.goto 4, 3) := by decide +kernel
theorem d_Model_quotient_80 : decode prog_13_method_14_code 80 = .ok (.iconst 0, 1) := by decide +kernel
theorem d_Model_quotient_81 : decode prog_13_method_14_code 81 = .ok (.istore 5, 2) := by decide +kernel
theorem d_Model_quotient_83 : decode prog_13_method_14_code 83 = .ok (.iload 5, 2) := by decide +kernel
theorem d_Model_quotient_85 : decode prog_13_method_14_code 85 = .ok (.ifCond .eq 9, 3) := by decide +kernel
theorem d_Model_quotient_88 : decode prog_13_method_14_code 88 = .ok (.aload_n 0, 1) := by decide +kernel
theorem d_Model_quotient_89 : decode prog_13_method_14_code 89 = .ok (.iload_n 2, 1) := by decide +kernel
theorem d_Model_quotient_90 : decode prog_13_method_14_code 90 = .ok (.iload_n 3, 1) := by decide +kernel
theorem d_Model_quotient_91 : decode prog_13_method_14_code 91 = .ok (.invokevirtual 124, 3) := by decide +kernel
theorem d_Model_quotient_94 : decode prog_13_method_14_code 94 = .ok (.aload_n 0, 1) := by decide +kernel
theorem d_Model_quotient_95 : decode prog_13_method_14_code 95 = .ok (.iload_n 1, 1) := by decide +kernel
theorem d_Model_quotient_96 : decode prog_13_method_14_code 96 = .ok (.ldc2_w 119, 3) := by decide +kernel
theorem d_Model_quotient_99 : decode prog_13_method_14_code 99 = .ok (.iload 5, 2) := by decide +kernel
theorem d_Model_quotient_101 : decode prog_13_method_14_code 101 = .ok (.ifCond .eq 7, 3) := by decide +kernel
theorem d_Model_quotient_104 : decode prog_13_method_14_code 104 = .ok (.lconst 1, 1) := by decide +kernel
theorem d_Model_quotient_105 : decode prog_13_method_14_code 105 = .ok (.goto 4, 3) := by decide +kernel
theorem d_Model_quotient_108 : decode prog_13_method_14_code 108 = .ok (.lconst 0, 1) := by decide +kernel
theorem d_Model_quotient_109 : decode prog_13_method_14_code 109 = .ok (.invokevirtual 104, 3) := by decide +kernel
theorem d_Model_quotient_112 : decode prog_13_method_14_code 112 = .ok (.iinc 4 (-1), 3) := by decide +kernel
theorem d_Model_quotient_115 : decode prog_13_method_14_code 115 = .ok (.goto (-81), 3) := by decide +kernel
theorem d_Model_quotient_118 : decode prog_13_method_14_code 118 = .ok (.return_, 1) := by decide +kernel
noncomputable def M_Model_quotient_b109 (x1 : Int32) (x2 : Int32) (x3 : Int32) (x4 : Int32) (s0 : Int64) (s1 : Int64) (s2 : Int32) (u : gSt) : Option ((Int32 × Int32 × Int32 × Int32 × gSt) ⊕ ((gSt))) :=
  (M_Model_grow s2 s1 s0 u).bind fun q109 =>
  some (.inl (x1, x2, x3, x4 + (-1 : Int32), q109))
set_option maxHeartbeats 4000000 in
set_option maxRecDepth 100000 in
theorem t_Model_quotient_b109 (C : gX "TermDeskModel" prog_13_method_14_code 6 none 2 50 R cells slots cy D ρ A p s m args meth c) {x1 : Int32} {x2 : Int32} {x3 : Int32} {x4 : Int32} {s0 : Int64} {s1 : Int64} {s2 : Int32} {u : gSt} {z : (Int32 × Int32 × Int32 × Int32 × gSt) ⊕ ((gSt))} (hM : M_Model_quotient_b109 x1 x2 x3 x4 s0 s1 s2 u = some z) (hN : ∀ x1' x2' x3' x4' u', z = .inl (x1', x2', x3', x4', u') → gAt p l e R s m args below meth c Q H0 cells slots cy D ρ A 6 34 [(0, .ref (ρ 42)), (1, .int (x1')), (2, .int (x2')), (3, .int (x3')), (4, .int (x4'))] [] (u')) (hE0 : ∀ u', z = .inr u' → gAt p l e R s m args below meth c Q H0 cells slots cy D ρ A 6 118 [] [] (u')) : gAt p l e R s m args below meth c Q H0 cells slots cy D ρ A 6 109 [(0, .ref (ρ 42)), (1, .int x1), (2, .int x2), (3, .int x3), (4, .int x4)] [.long s0, .long s1, .int s2, .ref (ρ 42)] u := by
  intro ls H locs hl hP hS
  have hx := C.1
  have hb := C.2.1
  unfold M_Model_quotient_b109 at hM
  obtain ⟨q109, hq109, hM⟩ := gb_some hM
  refine g_backV (g_runV (As := [.int s2, .long s1, .long s0]) C hP (c_Model_grow C.2.2.2.2.2.2.2.2.1 hq109) gi_Model_grow gm_Model_104 rfl rfl (by decide) (by decide) hl.1 rfl (Nat.le_of_ble_eq_true rfl) d_Model_quotient_109) hS (fun H locs hP hS => ?_)
  refine lv_iinc (k := 4) (v := x4 + (-1 : Int32)) (lv' := [(4, .int (x4 + (-1 : Int32))), (0, .ref (ρ 42)), (1, .int x1), (2, .int x2), (3, .int x3)]) hx hb d_Model_quotient_112 hl rfl (congrArg (fun z => x4 + z) (by decide)) (by decide) rfl (fun ls hl => ?_)
  refine lv_goto (tgt := 34) hx hb d_Model_quotient_115 (by decide) ?_
  exact hN _ _ _ _ _ (Option.some.inj hM).symm ls H locs (lv_sub hl [1, 2, 3, 4, 0] rfl) hP hS
noncomputable def M_Model_quotient_b94 (x1 : Int32) (x2 : Int32) (x3 : Int32) (x4 : Int32) (x5 : Int32) (u : gSt) : Option ((Int32 × Int32 × Int32 × Int32 × gSt) ⊕ ((gSt))) :=
  if x5 = (0 : Int32) then
    (M_Model_quotient_b109 x1 x2 x3 x4 (0 : Int64) (2 : Int64) x1 u)
  else
    (M_Model_quotient_b109 x1 x2 x3 x4 (1 : Int64) (2 : Int64) x1 u)
set_option maxHeartbeats 4000000 in
set_option maxRecDepth 100000 in
theorem t_Model_quotient_b94 (C : gX "TermDeskModel" prog_13_method_14_code 6 none 2 50 R cells slots cy D ρ A p s m args meth c) {x1 : Int32} {x2 : Int32} {x3 : Int32} {x4 : Int32} {x5 : Int32} {u : gSt} {z : (Int32 × Int32 × Int32 × Int32 × gSt) ⊕ ((gSt))} (hM : M_Model_quotient_b94 x1 x2 x3 x4 x5 u = some z) (hN : ∀ x1' x2' x3' x4' u', z = .inl (x1', x2', x3', x4', u') → gAt p l e R s m args below meth c Q H0 cells slots cy D ρ A 6 34 [(0, .ref (ρ 42)), (1, .int (x1')), (2, .int (x2')), (3, .int (x3')), (4, .int (x4'))] [] (u')) (hE0 : ∀ u', z = .inr u' → gAt p l e R s m args below meth c Q H0 cells slots cy D ρ A 6 118 [] [] (u')) : gAt p l e R s m args below meth c Q H0 cells slots cy D ρ A 6 94 [(0, .ref (ρ 42)), (1, .int x1), (2, .int x2), (3, .int x3), (4, .int x4), (5, .int x5)] [] u := by
  intro ls H locs hl hP hS
  have hx := C.1
  have hb := C.2.1
  unfold M_Model_quotient_b94 at hM
  refine lv_aload_n hx hb d_Model_quotient_94 rfl (lv_at hl 0 rfl) ?_
  refine lv_iload_n hx hb d_Model_quotient_95 rfl (lv_at hl 1 rfl) ?_
  refine lv_ldc2 (v := 2) hx hb C.2.2.2.2.1 (C.2.2.2.2.2.1 _ (gWs_at 1396 (by decide +kernel) (by decide +kernel))) d_Model_quotient_96 ?_
  refine lv_iload hx hb d_Model_quotient_99 (lv_at hl 5 rfl) ?_
  refine lv_if_eq (tgt := 108) hx hb d_Model_quotient_101 (by decide) (fun hc101 => ?_) (fun hc101 => ?_)
  · replace hM := gi_t hc101 hM
    refine lv_lconst (v := 0) hx hb d_Model_quotient_108 (by decide) ?_
    exact t_Model_quotient_b109 C hM hN hE0 ls H locs (lv_sub hl [0, 1, 2, 3, 4] rfl) hP hS
  · replace hM := gi_f hc101 hM
    refine lv_lconst (v := 1) hx hb d_Model_quotient_104 (by decide) ?_
    refine lv_goto (tgt := 109) hx hb d_Model_quotient_105 (by decide) ?_
    exact t_Model_quotient_b109 C hM hN hE0 ls H locs (lv_sub hl [0, 1, 2, 3, 4] rfl) hP hS
noncomputable def M_Model_quotient_b81 (x1 : Int32) (x2 : Int32) (x3 : Int32) (x4 : Int32) (s0 : Int32) (u : gSt) : Option ((Int32 × Int32 × Int32 × Int32 × gSt) ⊕ ((gSt))) :=
  if s0 = (0 : Int32) then
    (M_Model_quotient_b94 x1 x2 x3 x4 s0 u)
  else
    ((M_Model_lessNumber x2 x3 u).bind fun q91 =>
    M_Model_quotient_b94 x1 x2 x3 x4 s0 q91)
set_option maxHeartbeats 4000000 in
set_option maxRecDepth 100000 in
theorem t_Model_quotient_b81 (C : gX "TermDeskModel" prog_13_method_14_code 6 none 2 50 R cells slots cy D ρ A p s m args meth c) {x1 : Int32} {x2 : Int32} {x3 : Int32} {x4 : Int32} {s0 : Int32} {u : gSt} {z : (Int32 × Int32 × Int32 × Int32 × gSt) ⊕ ((gSt))} (hM : M_Model_quotient_b81 x1 x2 x3 x4 s0 u = some z) (hN : ∀ x1' x2' x3' x4' u', z = .inl (x1', x2', x3', x4', u') → gAt p l e R s m args below meth c Q H0 cells slots cy D ρ A 6 34 [(0, .ref (ρ 42)), (1, .int (x1')), (2, .int (x2')), (3, .int (x3')), (4, .int (x4'))] [] (u')) (hE0 : ∀ u', z = .inr u' → gAt p l e R s m args below meth c Q H0 cells slots cy D ρ A 6 118 [] [] (u')) : gAt p l e R s m args below meth c Q H0 cells slots cy D ρ A 6 81 [(0, .ref (ρ 42)), (1, .int x1), (2, .int x2), (3, .int x3), (4, .int x4)] [.int s0] u := by
  intro ls H locs hl hP hS
  have hx := C.1
  have hb := C.2.1
  unfold M_Model_quotient_b81 at hM
  refine lv_istore (lv' := [(5, .int s0), (0, .ref (ρ 42)), (1, .int x1), (2, .int x2), (3, .int x3), (4, .int x4)]) hx hb d_Model_quotient_81 hl (by decide) rfl (fun ls hl => ?_)
  refine lv_iload hx hb d_Model_quotient_83 (lv_at hl 0 rfl) ?_
  refine lv_if_eq (tgt := 94) hx hb d_Model_quotient_85 (by decide) (fun hc85 => ?_) (fun hc85 => ?_)
  · replace hM := gi_t hc85 hM
    exact t_Model_quotient_b94 C hM hN hE0 ls H locs (lv_sub hl [1, 2, 3, 4, 5, 0] rfl) hP hS
  · replace hM := gi_f hc85 hM
    refine lv_aload_n hx hb d_Model_quotient_88 rfl (lv_at hl 1 rfl) ?_
    refine lv_iload_n hx hb d_Model_quotient_89 rfl (lv_at hl 3 rfl) ?_
    refine lv_iload_n hx hb d_Model_quotient_90 rfl (lv_at hl 4 rfl) ?_
    obtain ⟨q91, hq91, hM⟩ := gb_some hM
    refine g_backV (g_runV (As := [.int x2, .int x3]) C hP (c_Model_lessNumber C.2.2.2.2.2.2.2.2.1 hq91) gi_Model_lessNumber gm_Model_124 rfl rfl (by decide) (by decide) hl.1 rfl (Nat.le_of_ble_eq_true rfl) d_Model_quotient_91) hS (fun H locs hP hS => ?_)
    exact t_Model_quotient_b94 C hM hN hE0 ls H locs (lv_sub hl [1, 2, 3, 4, 5, 0] rfl) hP hS
noncomputable def M_Model_quotient_b34 (x1 : Int32) (x2 : Int32) (x3 : Int32) (x4 : Int32) (u : gSt) : Option ((Int32 × Int32 × Int32 × Int32 × gSt) ⊕ ((gSt))) :=
  if x4 < (0 : Int32) then
    (some (.inr u))
  else
    ((M_Model_digit (7 : Int32) (x4 / (15 : Int32)) u).bind fun q52 =>
    (M_Model_grow x2 (2 : Int64) (((q52.1 >>> ((x4 - x4 / (15 : Int32) * (15 : Int32)) &&& (31 : Int32))) &&& (1 : Int32)).toInt64) q52.2).bind fun q64 =>
    (M_Model_order x2 x3 q64).bind fun q70 =>
    if q70.1 < (0 : Int32) then
      (M_Model_quotient_b81 x1 x2 x3 x4 (0 : Int32) q70.2)
    else
      (M_Model_quotient_b81 x1 x2 x3 x4 (1 : Int32) q70.2))
set_option maxHeartbeats 4000000 in
set_option maxRecDepth 100000 in
theorem t_Model_quotient_b34 (C : gX "TermDeskModel" prog_13_method_14_code 6 none 2 50 R cells slots cy D ρ A p s m args meth c) {x1 : Int32} {x2 : Int32} {x3 : Int32} {x4 : Int32} {u : gSt} {z : (Int32 × Int32 × Int32 × Int32 × gSt) ⊕ ((gSt))} (hM : M_Model_quotient_b34 x1 x2 x3 x4 u = some z) (hN : ∀ x1' x2' x3' x4' u', z = .inl (x1', x2', x3', x4', u') → gAt p l e R s m args below meth c Q H0 cells slots cy D ρ A 6 34 [(0, .ref (ρ 42)), (1, .int (x1')), (2, .int (x2')), (3, .int (x3')), (4, .int (x4'))] [] (u')) (hE0 : ∀ u', z = .inr u' → gAt p l e R s m args below meth c Q H0 cells slots cy D ρ A 6 118 [] [] (u')) : gAt p l e R s m args below meth c Q H0 cells slots cy D ρ A 6 34 [(0, .ref (ρ 42)), (1, .int x1), (2, .int x2), (3, .int x3), (4, .int x4)] [] u := by
  intro ls H locs hl hP hS
  have hx := C.1
  have hb := C.2.1
  unfold M_Model_quotient_b34 at hM
  refine lv_iload hx hb d_Model_quotient_34 (lv_at hl 4 rfl) ?_
  refine lv_if_lt (tgt := 118) hx hb d_Model_quotient_36 (by decide) (fun hc36 => ?_) (fun hc36 => ?_)
  · replace hM := gi_t hc36 hM
    exact hE0 _ (Option.some.inj hM).symm ls H locs (lv_sub hl [] rfl) hP hS
  · replace hM := gi_f hc36 hM
    refine lv_aload_n hx hb d_Model_quotient_39 rfl (lv_at hl 0 rfl) ?_
    refine lv_iload_n hx hb d_Model_quotient_40 rfl (lv_at hl 2 rfl) ?_
    refine lv_ldc2 (v := 2) hx hb C.2.2.2.2.1 (C.2.2.2.2.2.1 _ (gWs_at 1396 (by decide +kernel) (by decide +kernel))) d_Model_quotient_41 ?_
    refine lv_aload_n hx hb d_Model_quotient_44 rfl (lv_at hl 0 rfl) ?_
    refine lv_bipush (v := (7 : Int32)) hx hb d_Model_quotient_45 (by decide) ?_
    refine lv_iload hx hb d_Model_quotient_47 (lv_at hl 4 rfl) ?_
    refine lv_bipush (v := (15 : Int32)) hx hb d_Model_quotient_49 (by decide) ?_
    refine lv_idiv hx hb d_Model_quotient_51 (by decide) ?_
    obtain ⟨q52, hq52, hM⟩ := gb_some hM
    refine g_backI (g_runV (As := [.int (7 : Int32), .int (x4 / (15 : Int32))]) C hP (c_Model_digit C.2.2.2.2.2.2.2.2.1 hq52) gi_Model_digit gm_Model_89 rfl rfl (by decide) (by decide) hl.1 rfl (Nat.le_of_ble_eq_true rfl) d_Model_quotient_52) hS (fun H locs hP hS => ?_)
    refine lv_iload hx hb d_Model_quotient_55 (lv_at hl 4 rfl) ?_
    refine lv_bipush (v := (15 : Int32)) hx hb d_Model_quotient_57 (by decide) ?_
    refine lv_irem hx hb d_Model_quotient_59 (by decide) ?_
    refine lv_ishr hx hb d_Model_quotient_60 ?_
    refine lv_iconst (v := (1 : Int32)) hx hb d_Model_quotient_61 (by decide) ?_
    refine lv_iand hx hb d_Model_quotient_62 ?_
    refine lv_i2l (v := ((q52.1 >>> ((x4 - x4 / (15 : Int32) * (15 : Int32)) &&& (31 : Int32))) &&& (1 : Int32)).toInt64) hx hb d_Model_quotient_63 rfl ?_
    obtain ⟨q64, hq64, hM⟩ := gb_some hM
    refine g_backV (g_runV (As := [.int x2, .long (2 : Int64), .long (((q52.1 >>> ((x4 - x4 / (15 : Int32) * (15 : Int32)) &&& (31 : Int32))) &&& (1 : Int32)).toInt64)]) C hP (c_Model_grow C.2.2.2.2.2.2.2.2.1 hq64) gi_Model_grow gm_Model_104 rfl rfl (by decide) (by decide) hl.1 rfl (Nat.le_of_ble_eq_true rfl) d_Model_quotient_64) hS (fun H locs hP hS => ?_)
    refine lv_aload_n hx hb d_Model_quotient_67 rfl (lv_at hl 0 rfl) ?_
    refine lv_iload_n hx hb d_Model_quotient_68 rfl (lv_at hl 2 rfl) ?_
    refine lv_iload_n hx hb d_Model_quotient_69 rfl (lv_at hl 3 rfl) ?_
    obtain ⟨q70, hq70, hM⟩ := gb_some hM
    refine g_backI (g_runV (As := [.int x2, .int x3]) C hP (c_Model_order C.2.2.2.2.2.2.2.2.1 hq70) gi_Model_order gm_Model_121 rfl rfl (by decide) (by decide) hl.1 rfl (Nat.le_of_ble_eq_true rfl) d_Model_quotient_70) hS (fun H locs hP hS => ?_)
    refine lv_if_lt (tgt := 80) hx hb d_Model_quotient_73 (by decide) (fun hc73 => ?_) (fun hc73 => ?_)
    · replace hM := gi_t hc73 hM
      refine lv_iconst (v := (0 : Int32)) hx hb d_Model_quotient_80 (by decide) ?_
      exact t_Model_quotient_b81 C hM hN hE0 ls H locs (lv_sub hl [0, 1, 2, 3, 4] rfl) hP hS
    · replace hM := gi_f hc73 hM
      refine lv_iconst (v := (1 : Int32)) hx hb d_Model_quotient_76 (by decide) ?_
      refine lv_goto (tgt := 81) hx hb d_Model_quotient_77 (by decide) ?_
      exact t_Model_quotient_b81 C hM hN hE0 ls H locs (lv_sub hl [0, 1, 2, 3, 4] rfl) hP hS
noncomputable def M_Model_quotient_L34 : (Int32 × Int32 × Int32 × Int32 × gSt) → Option ((Int32 × Int32 × Int32 × Int32 × gSt) ⊕ ((gSt))) := fun x => M_Model_quotient_b34 x.1 x.2.1 x.2.2.1 x.2.2.2.1 x.2.2.2.2
theorem t_Model_quotient_L34 (C : gX "TermDeskModel" prog_13_method_14_code 6 none 2 50 R cells slots cy D ρ A p s m args meth c) {x1 : Int32} {x2 : Int32} {x3 : Int32} {x4 : Int32} {u : gSt} {yy : (gSt)} (hL : gLp M_Model_quotient_L34 (x1, x2, x3, x4, u) = some yy) (hE0 : (∀ y', yy = y' → gAt p l e R s m args below meth c Q H0 cells slots cy D ρ A 6 118 [] [] (y'))) : gAt p l e R s m args below meth c Q H0 cells slots cy D ρ A 6 34 [(0, .ref (ρ 42)), (1, .int x1), (2, .int x2), (3, .int x3), (4, .int x4)] [] u :=
  g_loop (f := M_Model_quotient_L34) (P := fun x => gAt p l e R s m args below meth c Q H0 cells slots cy D ρ A 6 34 [(0, .ref (ρ 42)), (1, .int x.1), (2, .int x.2.1), (3, .int x.2.2.1), (4, .int x.2.2.2.1)] [] x.2.2.2.2) (E := fun yy => (∀ y', yy = y' → gAt p l e R s m args below meth c Q H0 cells slots cy D ρ A 6 118 [] [] (y'))) (fun x z hf hN hE => t_Model_quotient_b34 C hf (fun x1' x2' x3' x4' u' h => hN (x1', x2', x3', x4', u') h) (fun u' h => (hE _ h) u' rfl)) hL hE0
noncomputable def M_Model_quotient (x1 : Int32) (x2 : Int32) (x3 : Int32) (u : gSt) : Option (gSt) :=
  (M_Model_copyNumber (7 : Int32) x2 u).bind fun q4 =>
  (M_Model_set x2 (0 : Int32) q4).bind fun q10 =>
  gc (gIn x1 (gLen 56)) <| (some (gsA q10 56 (gIx x1) (0 : Int32))).bind fun u19 =>
  gc (gIn (7 : Int32) (gLen 56)) <| (gLp M_Model_quotient_L34 (x1, x2, x3, ((15 : Int32) * (u19.2.2.1 56 (gIx (7 : Int32)))) - (1 : Int32), u19)).bind fun y34 =>
  some y34
set_option maxHeartbeats 4000000 in
set_option maxRecDepth 100000 in
theorem t_Model_quotient (C : gX "TermDeskModel" prog_13_method_14_code 6 none 2 50 R cells slots cy D ρ A p s m args meth c) {x1 : Int32} {x2 : Int32} {x3 : Int32} {u : gSt} {z : gSt} (hM : M_Model_quotient x1 x2 x3 u = some z) (hR : gRtV p l e R s m args below meth c Q H0 cells slots cy D ρ A prog_13_method_14_code z) : gAt p l e R s m args below meth c Q H0 cells slots cy D ρ A 6 0 [(0, .ref (ρ 42)), (1, .int x1), (2, .int x2), (3, .int x3)] [] u := by
  intro ls H locs hl hP hS
  have hx := C.1
  have hb := C.2.1
  unfold M_Model_quotient at hM
  refine lv_aload_n hx hb d_Model_quotient_0 rfl (lv_at hl 0 rfl) ?_
  refine lv_bipush (v := (7 : Int32)) hx hb d_Model_quotient_1 (by decide) ?_
  refine lv_iload_n hx hb d_Model_quotient_3 rfl (lv_at hl 2 rfl) ?_
  obtain ⟨q4, hq4, hM⟩ := gb_some hM
  refine g_backV (g_runV (As := [.int (7 : Int32), .int x2]) C hP (c_Model_copyNumber C.2.2.2.2.2.2.2.2.1 hq4) gi_Model_copyNumber gm_Model_112 rfl rfl (by decide) (by decide) hl.1 rfl (Nat.le_of_ble_eq_true rfl) d_Model_quotient_4) hS (fun H locs hP hS => ?_)
  refine lv_aload_n hx hb d_Model_quotient_7 rfl (lv_at hl 0 rfl) ?_
  refine lv_iload_n hx hb d_Model_quotient_8 rfl (lv_at hl 2 rfl) ?_
  refine lv_iconst (v := (0 : Int32)) hx hb d_Model_quotient_9 (by decide) ?_
  obtain ⟨q10, hq10, hM⟩ := gb_some hM
  refine g_backV (g_runV (As := [.int x2, .int (0 : Int32)]) C hP (c_Model_set C.2.2.2.2.2.2.2.2.1 hq10) gi_Model_set gm_Model_116 rfl rfl (by decide) (by decide) hl.1 rfl (Nat.le_of_ble_eq_true rfl) d_Model_quotient_10) hS (fun H locs hP hS => ?_)
  refine lv_aload_n hx hb d_Model_quotient_13 rfl (lv_at hl 0 rfl) ?_
  refine g_getR (b := 56) C hP gl_DeskModel_56 rfl rfl rfl d_Model_quotient_14 ?_
  refine lv_iload_n hx hb d_Model_quotient_17 rfl (lv_at hl 1 rfl) ?_
  refine lv_iconst (v := (0 : Int32)) hx hb d_Model_quotient_18 (by decide) ?_
  obtain ⟨hi19, hM⟩ := gc_some hM
  obtain ⟨u19, e19, hM⟩ := gb_some hM
  refine g_iast C hP hS rfl hi19 d_Model_quotient_19 (fun H locs hP hS => ?_)
  rw [Option.some.inj e19] at hP
  refine lv_bipush (v := (15 : Int32)) hx hb d_Model_quotient_20 (by decide) ?_
  refine lv_aload_n hx hb d_Model_quotient_22 rfl (lv_at hl 0 rfl) ?_
  refine g_getR (b := 56) C hP gl_DeskModel_56 rfl rfl rfl d_Model_quotient_23 ?_
  refine lv_bipush (v := (7 : Int32)) hx hb d_Model_quotient_26 (by decide) ?_
  obtain ⟨hi28, hM⟩ := gc_some hM
  refine g_iald C hP rfl hi28 d_Model_quotient_28 ?_
  refine lv_imul hx hb d_Model_quotient_29 ?_
  refine lv_iconst (v := (1 : Int32)) hx hb d_Model_quotient_30 (by decide) ?_
  refine lv_isub hx hb d_Model_quotient_31 ?_
  refine lv_istore (lv' := [(4, .int (((15 : Int32) * (u19.2.2.1 56 (gIx (7 : Int32)))) - (1 : Int32))), (0, .ref (ρ 42)), (1, .int x1), (2, .int x2), (3, .int x3)]) hx hb d_Model_quotient_32 hl (by decide) rfl (fun ls hl => ?_)
  obtain ⟨y34, hL34, hM⟩ := gb_some hM
  refine t_Model_quotient_L34 C hL34 (fun y34_0 hy => ?_) ls H locs (lv_sub hl [1, 2, 3, 4, 0] rfl) hP hS
  · subst hy
    intro ls H locs hl hP hS
    obtain rfl := Option.some.inj hM
    exact hR _ ls H locs d_Model_quotient_118 hP hS
theorem c_Model_quotient {l : Launch} {cy : Nat → ClassId} {D : va_G} {ρ : Nat → Nat} {A : Nat → Prop} (hD : gD ρ A) {x1 : Int32} {x2 : Int32} {x3 : Int32} {u : gSt} {z : gSt} (hM : M_Model_quotient x1 x2 x3 u = some z) : gCtV l y_Model_quotient prog_13_method_14_code 6 none 2 50 cy D ρ A [.ref (ρ 42), .int x1, .int x2, .int x3] u z :=
  g_met (by decide) hD (Nat.le_of_ble_eq_true rfl) (fun p e s m below meth c ls X hl hP => t_Model_quotient X hM (fun pc ls H locs hd hP hS => g_vret X hP hS hd) ls _ [] hl hP va_S.rf)
end
section
variable {p : Program} {l : Launch} {e : Env} {R : Room} {s : State} {m : MethodId} {args : Array Value} {below : List Frame} {meth : Method} {c : Code} {Q : State → Prop} {H0 : Heap} {cells slots : Nat} {cy : Nat → ClassId} {D : va_G} {ρ : Nat → Nat} {A : Nat → Prop}
def y_Model_load : MethodName := ⟨"TermDeskModel", "load", "(I[II)V"⟩
theorem gi_Model_load : gMi y_Model_load prog_13_method_15_code 5 none 3 8 := ⟨(gWs_at 1343 (by decide +kernel) (by decide +kernel)), (gWs_at 1342 (by decide +kernel) (by decide +kernel)), (gWs_at 101 (by decide +kernel) (by decide +kernel)), (gWs_at 125 (by decide +kernel) (by decide +kernel)), ⟨by decide +kernel, by decide +kernel, by decide +kernel⟩, _, _, rfl⟩
theorem gm_Model_268 : gMk "TermDeskModel" 268 y_Model_load := Or.inl (gWs_at 1340 (by decide +kernel) (by decide +kernel))
theorem d_Model_load_0 : decode prog_13_method_15_code 0 = .ok (.iconst 0, 1) := by decide +kernel
theorem d_Model_load_1 : decode prog_13_method_15_code 1 = .ok (.istore 4, 2) := by decide +kernel
theorem d_Model_load_3 : decode prog_13_method_15_code 3 = .ok (.iload 4, 2) := by decide +kernel
theorem d_Model_load_5 : decode prog_13_method_15_code 5 = .ok (.bipush 20, 2) := by decide +kernel
theorem d_Model_load_7 : decode prog_13_method_15_code 7 = .ok (.if_icmp .ge 27, 3) := by decide +kernel
theorem d_Model_load_10 : decode prog_13_method_15_code 10 = .ok (.aload_n 0, 1) := by decide +kernel
theorem d_Model_load_11 : decode prog_13_method_15_code 11 = .ok (.getfield 53, 3) := by decide +kernel
theorem d_Model_load_14 : decode prog_13_method_15_code 14 = .ok (.bipush 48, 2) := by decide +kernel
theorem d_Model_load_16 : decode prog_13_method_15_code 16 = .ok (.iload_n 1, 1) := by decide +kernel
theorem d_Model_load_17 : decode prog_13_method_15_code 17 = .ok (.imul, 1) := by decide +kernel
theorem d_Model_load_18 : decode prog_13_method_15_code 18 = .ok (.iload 4, 2) := by decide +kernel
theorem d_Model_load_20 : decode prog_13_method_15_code 20 = .ok (.iadd, 1) := by decide +kernel
theorem d_Model_load_21 : decode prog_13_method_15_code 21 = .ok (.aload_n 2, 1) := by decide +kernel
theorem d_Model_load_22 : decode prog_13_method_15_code 22 = .ok (.iload_n 3, 1) := by decide +kernel
theorem d_Model_load_23 : decode prog_13_method_15_code 23 = .ok (.iload 4, 2) := by decide +kernel
theorem d_Model_load_25 : decode prog_13_method_15_code 25 = .ok (.iadd, 1) := by decide +kernel
theorem d_Model_load_26 : decode prog_13_method_15_code 26 = .ok (.iaload, 1) := by decide +kernel
theorem d_Model_load_27 : decode prog_13_method_15_code 27 = .ok (.iastore, 1) := by decide +kernel
theorem d_Model_load_28 : decode prog_13_method_15_code 28 = .ok (.iinc 4 1, 3) := by decide +kernel
theorem d_Model_load_31 : decode prog_13_method_15_code 31 = .ok (.goto (-28), 3) := by decide +kernel
theorem d_Model_load_34 : decode prog_13_method_15_code 34 = .ok (.aload_n 0, 1) := by decide +kernel
theorem d_Model_load_35 : decode prog_13_method_15_code 35 = .ok (.getfield 56, 3) := by decide +kernel
theorem d_Model_load_38 : decode prog_13_method_15_code 38 = .ok (.iload_n 1, 1) := by decide +kernel
theorem d_Model_load_39 : decode prog_13_method_15_code 39 = .ok (.bipush 20, 2) := by decide +kernel
theorem d_Model_load_41 : decode prog_13_method_15_code 41 = .ok (.iastore, 1) := by decide +kernel
theorem d_Model_load_42 : decode prog_13_method_15_code 42 = .ok (.aload_n 0, 1) := by decide +kernel
theorem d_Model_load_43 : decode prog_13_method_15_code 43 = .ok (.iload_n 1, 1) := by decide +kernel
theorem d_Model_load_44 : decode prog_13_method_15_code 44 = .ok (.invokevirtual 95, 3) := by decide +kernel
theorem d_Model_load_47 : decode prog_13_method_15_code 47 = .ok (.return_, 1) := by decide +kernel
noncomputable def M_Model_load_b3 (x1 : Int32) (a2 : Nat) (x3 : Int32) (x4 : Int32) (u : gSt) : Option ((Int32 × Nat × Int32 × Int32 × gSt) ⊕ ((Int32 × gSt))) :=
  if (20 : Int32) ≤ x4 then
    (some (.inr (x1, u)))
  else
    (gc (gK a2 == 22) <| gc (gIn (x3 + x4) (gLen a2)) <| gc (gIn (((48 : Int32) * x1) + x4) (gLen 55)) <| (some (gsA u 55 (gIx (((48 : Int32) * x1) + x4)) (u.2.2.1 a2 (gIx (x3 + x4))))).bind fun u27 =>
    some (.inl (x1, a2, x3, x4 + (1 : Int32), u27)))
set_option maxHeartbeats 4000000 in
set_option maxRecDepth 100000 in
theorem t_Model_load_b3 (C : gX "TermDeskModel" prog_13_method_15_code 5 none 1 21 R cells slots cy D ρ A p s m args meth c) {x1 : Int32} {a2 : Nat} {x3 : Int32} {x4 : Int32} {u : gSt} {z : (Int32 × Nat × Int32 × Int32 × gSt) ⊕ ((Int32 × gSt))} (hM : M_Model_load_b3 x1 a2 x3 x4 u = some z) (hN : ∀ x1' a2' x3' x4' u', z = .inl (x1', a2', x3', x4', u') → gAt p l e R s m args below meth c Q H0 cells slots cy D ρ A 5 3 [(0, .ref (ρ 42)), (1, .int (x1')), (2, .ref (ρ (a2'))), (3, .int (x3')), (4, .int (x4'))] [] (u')) (hE0 : ∀ x1' u', z = .inr (x1', u') → gAt p l e R s m args below meth c Q H0 cells slots cy D ρ A 5 34 [(0, .ref (ρ 42)), (1, .int (x1'))] [] (u')) : gAt p l e R s m args below meth c Q H0 cells slots cy D ρ A 5 3 [(0, .ref (ρ 42)), (1, .int x1), (2, .ref (ρ a2)), (3, .int x3), (4, .int x4)] [] u := by
  intro ls H locs hl hP hS
  have hx := C.1
  have hb := C.2.1
  unfold M_Model_load_b3 at hM
  refine lv_iload hx hb d_Model_load_3 (lv_at hl 4 rfl) ?_
  refine lv_bipush (v := (20 : Int32)) hx hb d_Model_load_5 (by decide) ?_
  refine lv_icmp_ge (tgt := 34) hx hb d_Model_load_7 (by decide) (fun hc7 => ?_) (fun hc7 => ?_)
  · replace hM := gi_t hc7 hM
    exact hE0 _ _ (Option.some.inj hM).symm ls H locs (lv_sub hl [0, 1] rfl) hP hS
  · replace hM := gi_f hc7 hM
    refine lv_aload_n hx hb d_Model_load_10 rfl (lv_at hl 0 rfl) ?_
    refine g_getR (b := 55) C hP gl_DeskModel_53 rfl rfl rfl d_Model_load_11 ?_
    refine lv_bipush (v := (48 : Int32)) hx hb d_Model_load_14 (by decide) ?_
    refine lv_iload_n hx hb d_Model_load_16 rfl (lv_at hl 1 rfl) ?_
    refine lv_imul hx hb d_Model_load_17 ?_
    refine lv_iload hx hb d_Model_load_18 (lv_at hl 4 rfl) ?_
    refine lv_iadd hx hb d_Model_load_20 ?_
    refine lv_aload_n hx hb d_Model_load_21 rfl (lv_at hl 2 rfl) ?_
    refine lv_iload_n hx hb d_Model_load_22 rfl (lv_at hl 3 rfl) ?_
    refine lv_iload hx hb d_Model_load_23 (lv_at hl 4 rfl) ?_
    refine lv_iadd hx hb d_Model_load_25 ?_
    obtain ⟨h26, hM⟩ := gc_some hM
    obtain ⟨hi26, hM⟩ := gc_some hM
    refine g_iald C hP (eq_of_beq h26) hi26 d_Model_load_26 ?_
    obtain ⟨hi27, hM⟩ := gc_some hM
    obtain ⟨u27, e27, hM⟩ := gb_some hM
    refine g_iast C hP hS rfl hi27 d_Model_load_27 (fun H locs hP hS => ?_)
    rw [Option.some.inj e27] at hP
    refine lv_iinc (k := 4) (v := x4 + (1 : Int32)) (lv' := [(4, .int (x4 + (1 : Int32))), (0, .ref (ρ 42)), (1, .int x1), (2, .ref (ρ a2)), (3, .int x3)]) hx hb d_Model_load_28 hl rfl (congrArg (fun z => x4 + z) (by decide)) (by decide) rfl (fun ls hl => ?_)
    refine lv_goto (tgt := 3) hx hb d_Model_load_31 (by decide) ?_
    exact hN _ _ _ _ _ (Option.some.inj hM).symm ls H locs (lv_sub hl [1, 2, 3, 4, 0] rfl) hP hS
noncomputable def M_Model_load_L3 : (Int32 × Nat × Int32 × Int32 × gSt) → Option ((Int32 × Nat × Int32 × Int32 × gSt) ⊕ ((Int32 × gSt))) := fun x => M_Model_load_b3 x.1 x.2.1 x.2.2.1 x.2.2.2.1 x.2.2.2.2
theorem t_Model_load_L3 (C : gX "TermDeskModel" prog_13_method_15_code 5 none 1 21 R cells slots cy D ρ A p s m args meth c) {x1 : Int32} {a2 : Nat} {x3 : Int32} {x4 : Int32} {u : gSt} {yy : (Int32 × gSt)} (hL : gLp M_Model_load_L3 (x1, a2, x3, x4, u) = some yy) (hE0 : (∀ y', yy = y' → gAt p l e R s m args below meth c Q H0 cells slots cy D ρ A 5 34 [(0, .ref (ρ 42)), (1, .int (y'.1))] [] (y'.2))) : gAt p l e R s m args below meth c Q H0 cells slots cy D ρ A 5 3 [(0, .ref (ρ 42)), (1, .int x1), (2, .ref (ρ a2)), (3, .int x3), (4, .int x4)] [] u :=
  g_loop (f := M_Model_load_L3) (P := fun x => gAt p l e R s m args below meth c Q H0 cells slots cy D ρ A 5 3 [(0, .ref (ρ 42)), (1, .int x.1), (2, .ref (ρ x.2.1)), (3, .int x.2.2.1), (4, .int x.2.2.2.1)] [] x.2.2.2.2) (E := fun yy => (∀ y', yy = y' → gAt p l e R s m args below meth c Q H0 cells slots cy D ρ A 5 34 [(0, .ref (ρ 42)), (1, .int (y'.1))] [] (y'.2))) (fun x z hf hN hE => t_Model_load_b3 C hf (fun x1' a2' x3' x4' u' h => hN (x1', a2', x3', x4', u') h) (fun x1' u' h => (hE _ h) (x1', u') rfl)) hL hE0
noncomputable def M_Model_load (x1 : Int32) (a2 : Nat) (x3 : Int32) (u : gSt) : Option (gSt) :=
  (gLp M_Model_load_L3 (x1, a2, x3, (0 : Int32), u)).bind fun y3 =>
  gc (gIn y3.1 (gLen 56)) <| (some (gsA y3.2 56 (gIx y3.1) (20 : Int32))).bind fun u41 =>
  (M_Model_trimNumber y3.1 u41).bind fun q44 =>
  some q44
set_option maxHeartbeats 4000000 in
set_option maxRecDepth 100000 in
theorem t_Model_load (C : gX "TermDeskModel" prog_13_method_15_code 5 none 1 21 R cells slots cy D ρ A p s m args meth c) {x1 : Int32} {a2 : Nat} {x3 : Int32} {u : gSt} {z : gSt} (hM : M_Model_load x1 a2 x3 u = some z) (hR : gRtV p l e R s m args below meth c Q H0 cells slots cy D ρ A prog_13_method_15_code z) : gAt p l e R s m args below meth c Q H0 cells slots cy D ρ A 5 0 [(0, .ref (ρ 42)), (1, .int x1), (2, .ref (ρ a2)), (3, .int x3)] [] u := by
  intro ls H locs hl hP hS
  have hx := C.1
  have hb := C.2.1
  unfold M_Model_load at hM
  refine lv_iconst (v := (0 : Int32)) hx hb d_Model_load_0 (by decide) ?_
  refine lv_istore (lv' := [(4, .int (0 : Int32)), (0, .ref (ρ 42)), (1, .int x1), (2, .ref (ρ a2)), (3, .int x3)]) hx hb d_Model_load_1 hl (by decide) rfl (fun ls hl => ?_)
  obtain ⟨y3, hL3, hM⟩ := gb_some hM
  refine t_Model_load_L3 C hL3 (fun y3_0 hy => ?_) ls H locs (lv_sub hl [1, 2, 3, 4, 0] rfl) hP hS
  · subst hy
    intro ls H locs hl hP hS
    refine lv_aload_n hx hb d_Model_load_34 rfl (lv_at hl 0 rfl) ?_
    refine g_getR (b := 56) C hP gl_DeskModel_56 rfl rfl rfl d_Model_load_35 ?_
    refine lv_iload_n hx hb d_Model_load_38 rfl (lv_at hl 1 rfl) ?_
    refine lv_bipush (v := (20 : Int32)) hx hb d_Model_load_39 (by decide) ?_
    obtain ⟨hi41, hM⟩ := gc_some hM
    obtain ⟨u41, e41, hM⟩ := gb_some hM
    refine g_iast C hP hS rfl hi41 d_Model_load_41 (fun H locs hP hS => ?_)
    rw [Option.some.inj e41] at hP
    refine lv_aload_n hx hb d_Model_load_42 rfl (lv_at hl 0 rfl) ?_
    refine lv_iload_n hx hb d_Model_load_43 rfl (lv_at hl 1 rfl) ?_
    obtain ⟨q44, hq44, hM⟩ := gb_some hM
    refine g_backV (g_runV (As := [.int y3.1]) C hP (c_Model_trimNumber C.2.2.2.2.2.2.2.2.1 hq44) gi_Model_trimNumber gm_Model_95 rfl rfl (by decide) (by decide) hl.1 rfl (Nat.le_of_ble_eq_true rfl) d_Model_load_44) hS (fun H locs hP hS => ?_)
    obtain rfl := Option.some.inj hM
    exact hR _ ls H locs d_Model_load_47 hP hS
theorem c_Model_load {l : Launch} {cy : Nat → ClassId} {D : va_G} {ρ : Nat → Nat} {A : Nat → Prop} (hD : gD ρ A) {x1 : Int32} {a2 : Nat} {x3 : Int32} {u : gSt} {z : gSt} (hM : M_Model_load x1 a2 x3 u = some z) : gCtV l y_Model_load prog_13_method_15_code 5 none 1 21 cy D ρ A [.ref (ρ 42), .int x1, .ref (ρ a2), .int x3] u z :=
  g_met (by decide) hD (Nat.le_of_ble_eq_true rfl) (fun p e s m below meth c ls X hl hP => t_Model_load X hM (fun pc ls H locs hd hP hS => g_vret X hP hS hd) ls _ [] hl hP va_S.rf)
end
section
variable {p : Program} {l : Launch} {e : Env} {R : Room} {s : State} {m : MethodId} {args : Array Value} {below : List Frame} {meth : Method} {c : Code} {Q : State → Prop} {H0 : Heap} {cells slots : Nat} {cy : Nat → ClassId} {D : va_G} {ρ : Nat → Nat} {A : Nat → Prop}
def y_Model_save : MethodName := ⟨"TermDeskModel", "save", "(I[II)V"⟩
theorem gi_Model_save : gMi y_Model_save prog_13_method_16_code 5 none 3 8 := ⟨(gWs_at 1351 (by decide +kernel) (by decide +kernel)), (gWs_at 1350 (by decide +kernel) (by decide +kernel)), (gWs_at 103 (by decide +kernel) (by decide +kernel)), (gWs_at 125 (by decide +kernel) (by decide +kernel)), ⟨by decide +kernel, by decide +kernel, by decide +kernel⟩, _, _, rfl⟩
theorem gm_Model_272 : gMk "TermDeskModel" 272 y_Model_save := Or.inl (gWs_at 1348 (by decide +kernel) (by decide +kernel))
theorem d_Model_save_0 : decode prog_13_method_16_code 0 = .ok (.iconst 0, 1) := by decide +kernel
theorem d_Model_save_1 : decode prog_13_method_16_code 1 = .ok (.istore 4, 2) := by decide +kernel
theorem d_Model_save_3 : decode prog_13_method_16_code 3 = .ok (.iload 4, 2) := by decide +kernel
theorem d_Model_save_5 : decode prog_13_method_16_code 5 = .ok (.bipush 20, 2) := by decide +kernel
theorem d_Model_save_7 : decode prog_13_method_16_code 7 = .ok (.if_icmp .ge 22, 3) := by decide +kernel
theorem d_Model_save_10 : decode prog_13_method_16_code 10 = .ok (.aload_n 2, 1) := by decide +kernel
theorem d_Model_save_11 : decode prog_13_method_16_code 11 = .ok (.iload_n 3, 1) := by decide +kernel
theorem d_Model_save_12 : decode prog_13_method_16_code 12 = .ok (.iload 4, 2) := by decide +kernel
theorem d_Model_save_14 : decode prog_13_method_16_code 14 = .ok (.iadd, 1) := by decide +kernel
theorem d_Model_save_15 : decode prog_13_method_16_code 15 = .ok (.aload_n 0, 1) := by decide +kernel
theorem d_Model_save_16 : decode prog_13_method_16_code 16 = .ok (.iload_n 1, 1) := by decide +kernel
theorem d_Model_save_17 : decode prog_13_method_16_code 17 = .ok (.iload 4, 2) := by decide +kernel
theorem d_Model_save_19 : decode prog_13_method_16_code 19 = .ok (.invokevirtual 89, 3) := by decide +kernel
theorem d_Model_save_22 : decode prog_13_method_16_code 22 = .ok (.iastore, 1) := by decide +kernel
theorem d_Model_save_23 : decode prog_13_method_16_code 23 = .ok (.iinc 4 1, 3) := by decide +kernel
theorem d_Model_save_26 : decode prog_13_method_16_code 26 = .ok (.goto (-23), 3) := by decide +kernel
theorem d_Model_save_29 : decode prog_13_method_16_code 29 = .ok (.return_, 1) := by decide +kernel
noncomputable def M_Model_save_b3 (x1 : Int32) (a2 : Nat) (x3 : Int32) (x4 : Int32) (u : gSt) : Option ((Int32 × Nat × Int32 × Int32 × gSt) ⊕ ((gSt))) :=
  if (20 : Int32) ≤ x4 then
    (some (.inr u))
  else
    ((M_Model_digit x1 x4 u).bind fun q19 =>
    gc (gK a2 == 22) <| gc (gIn (x3 + x4) (gLen a2)) <| (some (gsA q19.2 a2 (gIx (x3 + x4)) q19.1)).bind fun u22 =>
    some (.inl (x1, a2, x3, x4 + (1 : Int32), u22)))
set_option maxHeartbeats 4000000 in
set_option maxRecDepth 100000 in
theorem t_Model_save_b3 (C : gX "TermDeskModel" prog_13_method_16_code 5 none 1 22 R cells slots cy D ρ A p s m args meth c) {x1 : Int32} {a2 : Nat} {x3 : Int32} {x4 : Int32} {u : gSt} {z : (Int32 × Nat × Int32 × Int32 × gSt) ⊕ ((gSt))} (hM : M_Model_save_b3 x1 a2 x3 x4 u = some z) (hN : ∀ x1' a2' x3' x4' u', z = .inl (x1', a2', x3', x4', u') → gAt p l e R s m args below meth c Q H0 cells slots cy D ρ A 5 3 [(0, .ref (ρ 42)), (1, .int (x1')), (2, .ref (ρ (a2'))), (3, .int (x3')), (4, .int (x4'))] [] (u')) (hE0 : ∀ u', z = .inr u' → gAt p l e R s m args below meth c Q H0 cells slots cy D ρ A 5 29 [] [] (u')) : gAt p l e R s m args below meth c Q H0 cells slots cy D ρ A 5 3 [(0, .ref (ρ 42)), (1, .int x1), (2, .ref (ρ a2)), (3, .int x3), (4, .int x4)] [] u := by
  intro ls H locs hl hP hS
  have hx := C.1
  have hb := C.2.1
  unfold M_Model_save_b3 at hM
  refine lv_iload hx hb d_Model_save_3 (lv_at hl 4 rfl) ?_
  refine lv_bipush (v := (20 : Int32)) hx hb d_Model_save_5 (by decide) ?_
  refine lv_icmp_ge (tgt := 29) hx hb d_Model_save_7 (by decide) (fun hc7 => ?_) (fun hc7 => ?_)
  · replace hM := gi_t hc7 hM
    exact hE0 _ (Option.some.inj hM).symm ls H locs (lv_sub hl [] rfl) hP hS
  · replace hM := gi_f hc7 hM
    refine lv_aload_n hx hb d_Model_save_10 rfl (lv_at hl 2 rfl) ?_
    refine lv_iload_n hx hb d_Model_save_11 rfl (lv_at hl 3 rfl) ?_
    refine lv_iload hx hb d_Model_save_12 (lv_at hl 4 rfl) ?_
    refine lv_iadd hx hb d_Model_save_14 ?_
    refine lv_aload_n hx hb d_Model_save_15 rfl (lv_at hl 0 rfl) ?_
    refine lv_iload_n hx hb d_Model_save_16 rfl (lv_at hl 1 rfl) ?_
    refine lv_iload hx hb d_Model_save_17 (lv_at hl 4 rfl) ?_
    obtain ⟨q19, hq19, hM⟩ := gb_some hM
    refine g_backI (g_runV (As := [.int x1, .int x4]) C hP (c_Model_digit C.2.2.2.2.2.2.2.2.1 hq19) gi_Model_digit gm_Model_89 rfl rfl (by decide) (by decide) hl.1 rfl (Nat.le_of_ble_eq_true rfl) d_Model_save_19) hS (fun H locs hP hS => ?_)
    obtain ⟨h22, hM⟩ := gc_some hM
    obtain ⟨hi22, hM⟩ := gc_some hM
    obtain ⟨u22, e22, hM⟩ := gb_some hM
    refine g_iast C hP hS (eq_of_beq h22) hi22 d_Model_save_22 (fun H locs hP hS => ?_)
    rw [Option.some.inj e22] at hP
    refine lv_iinc (k := 4) (v := x4 + (1 : Int32)) (lv' := [(4, .int (x4 + (1 : Int32))), (0, .ref (ρ 42)), (1, .int x1), (2, .ref (ρ a2)), (3, .int x3)]) hx hb d_Model_save_23 hl rfl (congrArg (fun z => x4 + z) (by decide)) (by decide) rfl (fun ls hl => ?_)
    refine lv_goto (tgt := 3) hx hb d_Model_save_26 (by decide) ?_
    exact hN _ _ _ _ _ (Option.some.inj hM).symm ls H locs (lv_sub hl [1, 2, 3, 4, 0] rfl) hP hS
noncomputable def M_Model_save_L3 : (Int32 × Nat × Int32 × Int32 × gSt) → Option ((Int32 × Nat × Int32 × Int32 × gSt) ⊕ ((gSt))) := fun x => M_Model_save_b3 x.1 x.2.1 x.2.2.1 x.2.2.2.1 x.2.2.2.2
theorem t_Model_save_L3 (C : gX "TermDeskModel" prog_13_method_16_code 5 none 1 22 R cells slots cy D ρ A p s m args meth c) {x1 : Int32} {a2 : Nat} {x3 : Int32} {x4 : Int32} {u : gSt} {yy : (gSt)} (hL : gLp M_Model_save_L3 (x1, a2, x3, x4, u) = some yy) (hE0 : (∀ y', yy = y' → gAt p l e R s m args below meth c Q H0 cells slots cy D ρ A 5 29 [] [] (y'))) : gAt p l e R s m args below meth c Q H0 cells slots cy D ρ A 5 3 [(0, .ref (ρ 42)), (1, .int x1), (2, .ref (ρ a2)), (3, .int x3), (4, .int x4)] [] u :=
  g_loop (f := M_Model_save_L3) (P := fun x => gAt p l e R s m args below meth c Q H0 cells slots cy D ρ A 5 3 [(0, .ref (ρ 42)), (1, .int x.1), (2, .ref (ρ x.2.1)), (3, .int x.2.2.1), (4, .int x.2.2.2.1)] [] x.2.2.2.2) (E := fun yy => (∀ y', yy = y' → gAt p l e R s m args below meth c Q H0 cells slots cy D ρ A 5 29 [] [] (y'))) (fun x z hf hN hE => t_Model_save_b3 C hf (fun x1' a2' x3' x4' u' h => hN (x1', a2', x3', x4', u') h) (fun u' h => (hE _ h) u' rfl)) hL hE0
noncomputable def M_Model_save (x1 : Int32) (a2 : Nat) (x3 : Int32) (u : gSt) : Option (gSt) :=
  (gLp M_Model_save_L3 (x1, a2, x3, (0 : Int32), u)).bind fun y3 =>
  some y3
set_option maxHeartbeats 4000000 in
set_option maxRecDepth 100000 in
theorem t_Model_save (C : gX "TermDeskModel" prog_13_method_16_code 5 none 1 22 R cells slots cy D ρ A p s m args meth c) {x1 : Int32} {a2 : Nat} {x3 : Int32} {u : gSt} {z : gSt} (hM : M_Model_save x1 a2 x3 u = some z) (hR : gRtV p l e R s m args below meth c Q H0 cells slots cy D ρ A prog_13_method_16_code z) : gAt p l e R s m args below meth c Q H0 cells slots cy D ρ A 5 0 [(0, .ref (ρ 42)), (1, .int x1), (2, .ref (ρ a2)), (3, .int x3)] [] u := by
  intro ls H locs hl hP hS
  have hx := C.1
  have hb := C.2.1
  unfold M_Model_save at hM
  refine lv_iconst (v := (0 : Int32)) hx hb d_Model_save_0 (by decide) ?_
  refine lv_istore (lv' := [(4, .int (0 : Int32)), (0, .ref (ρ 42)), (1, .int x1), (2, .ref (ρ a2)), (3, .int x3)]) hx hb d_Model_save_1 hl (by decide) rfl (fun ls hl => ?_)
  obtain ⟨y3, hL3, hM⟩ := gb_some hM
  refine t_Model_save_L3 C hL3 (fun y3_0 hy => ?_) ls H locs (lv_sub hl [1, 2, 3, 4, 0] rfl) hP hS
  · subst hy
    intro ls H locs hl hP hS
    obtain rfl := Option.some.inj hM
    exact hR _ ls H locs d_Model_save_29 hP hS
theorem c_Model_save {l : Launch} {cy : Nat → ClassId} {D : va_G} {ρ : Nat → Nat} {A : Nat → Prop} (hD : gD ρ A) {x1 : Int32} {a2 : Nat} {x3 : Int32} {u : gSt} {z : gSt} (hM : M_Model_save x1 a2 x3 u = some z) : gCtV l y_Model_save prog_13_method_16_code 5 none 1 22 cy D ρ A [.ref (ρ 42), .int x1, .ref (ρ a2), .int x3] u z :=
  g_met (by decide) hD (Nat.le_of_ble_eq_true rfl) (fun p e s m below meth c ls X hl hP => t_Model_save X hM (fun pc ls H locs hd hP hS => g_vret X hP hS hd) ls _ [] hl hP va_S.rf)
end
section
variable {p : Program} {l : Launch} {e : Env} {R : Room} {s : State} {m : MethodId} {args : Array Value} {below : List Frame} {meth : Method} {c : Code} {Q : State → Prop} {H0 : Heap} {cells slots : Nat} {cy : Nat → ClassId} {D : va_G} {ρ : Nat → Nat} {A : Nat → Prop}
def y_Model_choose : MethodName := ⟨"TermDeskModel", "choose", "(III)V"⟩
theorem gi_Model_choose : gMi y_Model_choose prog_13_method_17_code 5 none 3 8 := ⟨(gWs_at 1305 (by decide +kernel) (by decide +kernel)), (gWs_at 1304 (by decide +kernel) (by decide +kernel)), (gWs_at 92 (by decide +kernel) (by decide +kernel)), (gWs_at 125 (by decide +kernel) (by decide +kernel)), ⟨by decide +kernel, by decide +kernel, by decide +kernel⟩, _, _, rfl⟩
theorem gm_Model_256 : gMk "TermDeskModel" 256 y_Model_choose := Or.inl (gWs_at 1302 (by decide +kernel) (by decide +kernel))
theorem d_Model_choose_0 : decode prog_13_method_17_code 0 = .ok (.aload_n 0, 1) := by decide +kernel
theorem d_Model_choose_1 : decode prog_13_method_17_code 1 = .ok (.iload_n 1, 1) := by decide +kernel
theorem d_Model_choose_2 : decode prog_13_method_17_code 2 = .ok (.iload_n 3, 1) := by decide +kernel
theorem d_Model_choose_3 : decode prog_13_method_17_code 3 = .ok (.ifCond .lt 8, 3) := by decide +kernel
theorem d_Model_choose_6 : decode prog_13_method_17_code 6 = .ok (.iload_n 3, 1) := by decide +kernel
theorem d_Model_choose_7 : decode prog_13_method_17_code 7 = .ok (.iload_n 2, 1) := by decide +kernel
theorem d_Model_choose_8 : decode prog_13_method_17_code 8 = .ok (.if_icmp .le 7, 3) := by decide +kernel
theorem d_Model_choose_11 : decode prog_13_method_17_code 11 = .ok (.iconst 0, 1) := by decide +kernel
theorem d_Model_choose_12 : decode prog_13_method_17_code 12 = .ok (.goto 4, 3) := by decide +kernel
theorem d_Model_choose_15 : decode prog_13_method_17_code 15 = .ok (.iconst 1, 1) := by decide +kernel
theorem d_Model_choose_16 : decode prog_13_method_17_code 16 = .ok (.invokevirtual 116, 3) := by decide +kernel
theorem d_Model_choose_19 : decode prog_13_method_17_code 19 = .ok (.iconst 0, 1) := by decide +kernel
theorem d_Model_choose_20 : decode prog_13_method_17_code 20 = .ok (.istore 4, 2) := by decide +kernel
theorem d_Model_choose_22 : decode prog_13_method_17_code 22 = .ok (.iload 4, 2) := by decide +kernel
theorem d_Model_choose_24 : decode prog_13_method_17_code 24 = .ok (.iload_n 3, 1) := by decide +kernel
theorem d_Model_choose_25 : decode prog_13_method_17_code 25 = .ok (.if_icmp .ge 34, 3) := by decide +kernel
theorem d_Model_choose_28 : decode prog_13_method_17_code 28 = .ok (.iload_n 3, 1) := by decide +kernel
theorem d_Model_choose_29 : decode prog_13_method_17_code 29 = .ok (.iload_n 2, 1) := by decide +kernel
theorem d_Model_choose_30 : decode prog_13_method_17_code 30 = .ok (.if_icmp .gt 29, 3) := by decide +kernel
theorem d_Model_choose_33 : decode prog_13_method_17_code 33 = .ok (.aload_n 0, 1) := by decide +kernel
theorem d_Model_choose_34 : decode prog_13_method_17_code 34 = .ok (.iload_n 1, 1) := by decide +kernel
theorem d_Model_choose_35 : decode prog_13_method_17_code 35 = .ok (.iload_n 2, 1) := by decide +kernel
theorem d_Model_choose_36 : decode prog_13_method_17_code 36 = .ok (.iload 4, 2) := by decide +kernel
theorem d_Model_choose_38 : decode prog_13_method_17_code 38 = .ok (.isub, 1) := by decide +kernel
theorem d_Model_choose_39 : decode prog_13_method_17_code 39 = .ok (.i2l, 1) := by decide +kernel
theorem d_Model_choose_40 : decode prog_13_method_17_code 40 = .ok (.lconst 0, 1) := by decide +kernel
theorem d_Model_choose_41 : decode prog_13_method_17_code 41 = .ok (.invokevirtual 104, 3) := by decide +kernel
theorem d_Model_choose_44 : decode prog_13_method_17_code 44 = .ok (.aload_n 0, 1) := by decide +kernel
theorem d_Model_choose_45 : decode prog_13_method_17_code 45 = .ok (.iload_n 1, 1) := by decide +kernel
theorem d_Model_choose_46 : decode prog_13_method_17_code 46 = .ok (.iload 4, 2) := by decide +kernel
theorem d_Model_choose_48 : decode prog_13_method_17_code 48 = .ok (.iconst 1, 1) := by decide +kernel
theorem d_Model_choose_49 : decode prog_13_method_17_code 49 = .ok (.iadd, 1) := by decide +kernel
theorem d_Model_choose_50 : decode prog_13_method_17_code 50 = .ok (.invokevirtual 127, 3) := by decide +kernel
theorem d_Model_choose_53 : decode prog_13_method_17_code 53 = .ok (.iinc 4 1, 3) := by decide +kernel
theorem d_Model_choose_56 : decode prog_13_method_17_code 56 = .ok (.goto (-34), 3) := by decide +kernel
theorem d_Model_choose_59 : decode prog_13_method_17_code 59 = .ok (.return_, 1) := by decide +kernel
noncomputable def M_Model_choose_b22 (x1 : Int32) (x2 : Int32) (x3 : Int32) (x4 : Int32) (u : gSt) : Option ((Int32 × Int32 × Int32 × Int32 × gSt) ⊕ ((gSt))) :=
  if x3 ≤ x4 then
    (some (.inr u))
  else
    (if x2 < x3 then
      (some (.inr u))
    else
      ((M_Model_grow x1 ((x2 - x4).toInt64) (0 : Int64) u).bind fun q41 =>
      (M_Model_lower x1 (x4 + (1 : Int32)) q41).bind fun q50 =>
      some (.inl (x1, x2, x3, x4 + (1 : Int32), q50))))
set_option maxHeartbeats 4000000 in
set_option maxRecDepth 100000 in
theorem t_Model_choose_b22 (C : gX "TermDeskModel" prog_13_method_17_code 5 none 2 50 R cells slots cy D ρ A p s m args meth c) {x1 : Int32} {x2 : Int32} {x3 : Int32} {x4 : Int32} {u : gSt} {z : (Int32 × Int32 × Int32 × Int32 × gSt) ⊕ ((gSt))} (hM : M_Model_choose_b22 x1 x2 x3 x4 u = some z) (hN : ∀ x1' x2' x3' x4' u', z = .inl (x1', x2', x3', x4', u') → gAt p l e R s m args below meth c Q H0 cells slots cy D ρ A 5 22 [(0, .ref (ρ 42)), (1, .int (x1')), (2, .int (x2')), (3, .int (x3')), (4, .int (x4'))] [] (u')) (hE0 : ∀ u', z = .inr u' → gAt p l e R s m args below meth c Q H0 cells slots cy D ρ A 5 59 [] [] (u')) : gAt p l e R s m args below meth c Q H0 cells slots cy D ρ A 5 22 [(0, .ref (ρ 42)), (1, .int x1), (2, .int x2), (3, .int x3), (4, .int x4)] [] u := by
  intro ls H locs hl hP hS
  have hx := C.1
  have hb := C.2.1
  unfold M_Model_choose_b22 at hM
  refine lv_iload hx hb d_Model_choose_22 (lv_at hl 4 rfl) ?_
  refine lv_iload_n hx hb d_Model_choose_24 rfl (lv_at hl 3 rfl) ?_
  refine lv_icmp_ge (tgt := 59) hx hb d_Model_choose_25 (by decide) (fun hc25 => ?_) (fun hc25 => ?_)
  · replace hM := gi_t hc25 hM
    exact hE0 _ (Option.some.inj hM).symm ls H locs (lv_sub hl [] rfl) hP hS
  · replace hM := gi_f hc25 hM
    refine lv_iload_n hx hb d_Model_choose_28 rfl (lv_at hl 3 rfl) ?_
    refine lv_iload_n hx hb d_Model_choose_29 rfl (lv_at hl 2 rfl) ?_
    refine lv_icmp_gt (tgt := 59) hx hb d_Model_choose_30 (by decide) (fun hc30 => ?_) (fun hc30 => ?_)
    · replace hM := gi_t hc30 hM
      exact hE0 _ (Option.some.inj hM).symm ls H locs (lv_sub hl [] rfl) hP hS
    · replace hM := gi_f hc30 hM
      refine lv_aload_n hx hb d_Model_choose_33 rfl (lv_at hl 0 rfl) ?_
      refine lv_iload_n hx hb d_Model_choose_34 rfl (lv_at hl 1 rfl) ?_
      refine lv_iload_n hx hb d_Model_choose_35 rfl (lv_at hl 2 rfl) ?_
      refine lv_iload hx hb d_Model_choose_36 (lv_at hl 4 rfl) ?_
      refine lv_isub hx hb d_Model_choose_38 ?_
      refine lv_i2l (v := (x2 - x4).toInt64) hx hb d_Model_choose_39 rfl ?_
      refine lv_lconst (v := 0) hx hb d_Model_choose_40 (by decide) ?_
      obtain ⟨q41, hq41, hM⟩ := gb_some hM
      refine g_backV (g_runV (As := [.int x1, .long ((x2 - x4).toInt64), .long (0 : Int64)]) C hP (c_Model_grow C.2.2.2.2.2.2.2.2.1 hq41) gi_Model_grow gm_Model_104 rfl rfl (by decide) (by decide) hl.1 rfl (Nat.le_of_ble_eq_true rfl) d_Model_choose_41) hS (fun H locs hP hS => ?_)
      refine lv_aload_n hx hb d_Model_choose_44 rfl (lv_at hl 0 rfl) ?_
      refine lv_iload_n hx hb d_Model_choose_45 rfl (lv_at hl 1 rfl) ?_
      refine lv_iload hx hb d_Model_choose_46 (lv_at hl 4 rfl) ?_
      refine lv_iconst (v := (1 : Int32)) hx hb d_Model_choose_48 (by decide) ?_
      refine lv_iadd hx hb d_Model_choose_49 ?_
      obtain ⟨q50, hq50, hM⟩ := gb_some hM
      refine g_backV (g_runV (As := [.int x1, .int (x4 + (1 : Int32))]) C hP (c_Model_lower C.2.2.2.2.2.2.2.2.1 hq50) gi_Model_lower gm_Model_127 rfl rfl (by decide) (by decide) hl.1 rfl (Nat.le_of_ble_eq_true rfl) d_Model_choose_50) hS (fun H locs hP hS => ?_)
      refine lv_iinc (k := 4) (v := x4 + (1 : Int32)) (lv' := [(4, .int (x4 + (1 : Int32))), (0, .ref (ρ 42)), (1, .int x1), (2, .int x2), (3, .int x3)]) hx hb d_Model_choose_53 hl rfl (congrArg (fun z => x4 + z) (by decide)) (by decide) rfl (fun ls hl => ?_)
      refine lv_goto (tgt := 22) hx hb d_Model_choose_56 (by decide) ?_
      exact hN _ _ _ _ _ (Option.some.inj hM).symm ls H locs (lv_sub hl [1, 2, 3, 4, 0] rfl) hP hS
noncomputable def M_Model_choose_L22 : (Int32 × Int32 × Int32 × Int32 × gSt) → Option ((Int32 × Int32 × Int32 × Int32 × gSt) ⊕ ((gSt))) := fun x => M_Model_choose_b22 x.1 x.2.1 x.2.2.1 x.2.2.2.1 x.2.2.2.2
theorem t_Model_choose_L22 (C : gX "TermDeskModel" prog_13_method_17_code 5 none 2 50 R cells slots cy D ρ A p s m args meth c) {x1 : Int32} {x2 : Int32} {x3 : Int32} {x4 : Int32} {u : gSt} {yy : (gSt)} (hL : gLp M_Model_choose_L22 (x1, x2, x3, x4, u) = some yy) (hE0 : (∀ y', yy = y' → gAt p l e R s m args below meth c Q H0 cells slots cy D ρ A 5 59 [] [] (y'))) : gAt p l e R s m args below meth c Q H0 cells slots cy D ρ A 5 22 [(0, .ref (ρ 42)), (1, .int x1), (2, .int x2), (3, .int x3), (4, .int x4)] [] u :=
  g_loop (f := M_Model_choose_L22) (P := fun x => gAt p l e R s m args below meth c Q H0 cells slots cy D ρ A 5 22 [(0, .ref (ρ 42)), (1, .int x.1), (2, .int x.2.1), (3, .int x.2.2.1), (4, .int x.2.2.2.1)] [] x.2.2.2.2) (E := fun yy => (∀ y', yy = y' → gAt p l e R s m args below meth c Q H0 cells slots cy D ρ A 5 59 [] [] (y'))) (fun x z hf hN hE => t_Model_choose_b22 C hf (fun x1' x2' x3' x4' u' h => hN (x1', x2', x3', x4', u') h) (fun u' h => (hE _ h) u' rfl)) hL hE0
noncomputable def M_Model_choose_b16 (x1 : Int32) (x2 : Int32) (x3 : Int32) (s0 : Int32) (s1 : Int32) (u : gSt) : Option (gSt) :=
  (M_Model_set s1 s0 u).bind fun q16 =>
  (gLp M_Model_choose_L22 (x1, x2, x3, (0 : Int32), q16)).bind fun y22 =>
  some y22
set_option maxHeartbeats 4000000 in
set_option maxRecDepth 100000 in
theorem t_Model_choose_b16 (C : gX "TermDeskModel" prog_13_method_17_code 5 none 2 50 R cells slots cy D ρ A p s m args meth c) {x1 : Int32} {x2 : Int32} {x3 : Int32} {s0 : Int32} {s1 : Int32} {u : gSt} {z : gSt} (hM : M_Model_choose_b16 x1 x2 x3 s0 s1 u = some z) (hR : gRtV p l e R s m args below meth c Q H0 cells slots cy D ρ A prog_13_method_17_code z) : gAt p l e R s m args below meth c Q H0 cells slots cy D ρ A 5 16 [(0, .ref (ρ 42)), (1, .int x1), (2, .int x2), (3, .int x3)] [.int s0, .int s1, .ref (ρ 42)] u := by
  intro ls H locs hl hP hS
  have hx := C.1
  have hb := C.2.1
  unfold M_Model_choose_b16 at hM
  obtain ⟨q16, hq16, hM⟩ := gb_some hM
  refine g_backV (g_runV (As := [.int s1, .int s0]) C hP (c_Model_set C.2.2.2.2.2.2.2.2.1 hq16) gi_Model_set gm_Model_116 rfl rfl (by decide) (by decide) hl.1 rfl (Nat.le_of_ble_eq_true rfl) d_Model_choose_16) hS (fun H locs hP hS => ?_)
  refine lv_iconst (v := (0 : Int32)) hx hb d_Model_choose_19 (by decide) ?_
  refine lv_istore (lv' := [(4, .int (0 : Int32)), (0, .ref (ρ 42)), (1, .int x1), (2, .int x2), (3, .int x3)]) hx hb d_Model_choose_20 hl (by decide) rfl (fun ls hl => ?_)
  obtain ⟨y22, hL22, hM⟩ := gb_some hM
  refine t_Model_choose_L22 C hL22 (fun y22_0 hy => ?_) ls H locs (lv_sub hl [1, 2, 3, 4, 0] rfl) hP hS
  · subst hy
    intro ls H locs hl hP hS
    obtain rfl := Option.some.inj hM
    exact hR _ ls H locs d_Model_choose_59 hP hS
noncomputable def M_Model_choose_b11 (x1 : Int32) (x2 : Int32) (x3 : Int32) (s0 : Int32) (u : gSt) : Option (gSt) :=
  M_Model_choose_b16 x1 x2 x3 (0 : Int32) s0 u
set_option maxHeartbeats 4000000 in
set_option maxRecDepth 100000 in
theorem t_Model_choose_b11 (C : gX "TermDeskModel" prog_13_method_17_code 5 none 2 50 R cells slots cy D ρ A p s m args meth c) {x1 : Int32} {x2 : Int32} {x3 : Int32} {s0 : Int32} {u : gSt} {z : gSt} (hM : M_Model_choose_b11 x1 x2 x3 s0 u = some z) (hR : gRtV p l e R s m args below meth c Q H0 cells slots cy D ρ A prog_13_method_17_code z) : gAt p l e R s m args below meth c Q H0 cells slots cy D ρ A 5 11 [(0, .ref (ρ 42)), (1, .int x1), (2, .int x2), (3, .int x3)] [.int s0, .ref (ρ 42)] u := by
  intro ls H locs hl hP hS
  have hx := C.1
  have hb := C.2.1
  unfold M_Model_choose_b11 at hM
  refine lv_iconst (v := (0 : Int32)) hx hb d_Model_choose_11 (by decide) ?_
  refine lv_goto (tgt := 16) hx hb d_Model_choose_12 (by decide) ?_
  exact t_Model_choose_b16 C hM hR ls H locs (lv_sub hl [0, 1, 2, 3] rfl) hP hS
noncomputable def M_Model_choose (x1 : Int32) (x2 : Int32) (x3 : Int32) (u : gSt) : Option (gSt) :=
  if x3 < (0 : Int32) then
    (M_Model_choose_b11 x1 x2 x3 x1 u)
  else
    (if x3 ≤ x2 then
      (M_Model_choose_b16 x1 x2 x3 (1 : Int32) x1 u)
    else
      (M_Model_choose_b11 x1 x2 x3 x1 u))
set_option maxHeartbeats 4000000 in
set_option maxRecDepth 100000 in
theorem t_Model_choose (C : gX "TermDeskModel" prog_13_method_17_code 5 none 2 50 R cells slots cy D ρ A p s m args meth c) {x1 : Int32} {x2 : Int32} {x3 : Int32} {u : gSt} {z : gSt} (hM : M_Model_choose x1 x2 x3 u = some z) (hR : gRtV p l e R s m args below meth c Q H0 cells slots cy D ρ A prog_13_method_17_code z) : gAt p l e R s m args below meth c Q H0 cells slots cy D ρ A 5 0 [(0, .ref (ρ 42)), (1, .int x1), (2, .int x2), (3, .int x3)] [] u := by
  intro ls H locs hl hP hS
  have hx := C.1
  have hb := C.2.1
  unfold M_Model_choose at hM
  refine lv_aload_n hx hb d_Model_choose_0 rfl (lv_at hl 0 rfl) ?_
  refine lv_iload_n hx hb d_Model_choose_1 rfl (lv_at hl 1 rfl) ?_
  refine lv_iload_n hx hb d_Model_choose_2 rfl (lv_at hl 3 rfl) ?_
  refine lv_if_lt (tgt := 11) hx hb d_Model_choose_3 (by decide) (fun hc3 => ?_) (fun hc3 => ?_)
  · replace hM := gi_t hc3 hM
    exact t_Model_choose_b11 C hM hR ls H locs (lv_sub hl [0, 1, 2, 3] rfl) hP hS
  · replace hM := gi_f hc3 hM
    refine lv_iload_n hx hb d_Model_choose_6 rfl (lv_at hl 3 rfl) ?_
    refine lv_iload_n hx hb d_Model_choose_7 rfl (lv_at hl 2 rfl) ?_
    refine lv_icmp_le (tgt := 15) hx hb d_Model_choose_8 (by decide) (fun hc8 => ?_) (fun hc8 => ?_)
    · replace hM := gi_t hc8 hM
      refine lv_iconst (v := (1 : Int32)) hx hb d_Model_choose_15 (by decide) ?_
      exact t_Model_choose_b16 C hM hR ls H locs (lv_sub hl [0, 1, 2, 3] rfl) hP hS
    · replace hM := gi_f hc8 hM
      exact t_Model_choose_b11 C hM hR ls H locs (lv_sub hl [0, 1, 2, 3] rfl) hP hS
theorem c_Model_choose {l : Launch} {cy : Nat → ClassId} {D : va_G} {ρ : Nat → Nat} {A : Nat → Prop} (hD : gD ρ A) {x1 : Int32} {x2 : Int32} {x3 : Int32} {u : gSt} {z : gSt} (hM : M_Model_choose x1 x2 x3 u = some z) : gCtV l y_Model_choose prog_13_method_17_code 5 none 2 50 cy D ρ A [.ref (ρ 42), .int x1, .int x2, .int x3] u z :=
  g_met (by decide) hD (Nat.le_of_ble_eq_true rfl) (fun p e s m below meth c ls X hl hP => t_Model_choose X hM (fun pc ls H locs hd hP hS => g_vret X hP hS hd) ls _ [] hl hP va_S.rf)
end
section
variable {p : Program} {l : Launch} {e : Env} {R : Room} {s : State} {m : MethodId} {args : Array Value} {below : List Frame} {meth : Method} {c : Code} {Q : State → Prop} {H0 : Heap} {cells slots : Nat} {cy : Nat → ClassId} {D : va_G} {ρ : Nat → Nat} {A : Nat → Prop}
def y_Model_feed : MethodName := ⟨"TermDeskModel", "feed", "(IIIII)I"⟩
theorem gi_Model_feed : gMi y_Model_feed prog_13_method_18_code 8 (some .int) 5 8 := ⟨(gWs_at 1162 (by decide +kernel) (by decide +kernel)), (gWs_at 1160 (by decide +kernel) (by decide +kernel)), (gWs_at 1161 (by decide +kernel) (by decide +kernel)), (gWs_at 125 (by decide +kernel) (by decide +kernel)), ⟨by decide +kernel, by decide +kernel, by decide +kernel⟩, _, _, rfl⟩
theorem gm_Law_63 : gMk "TermDeskLaw" 63 y_Model_feed := Or.inl (gWs_at 1159 (by decide +kernel) (by decide +kernel))
theorem d_Model_feed_0 : decode prog_13_method_18_code 0 = .ok (.aload_n 0, 1) := by decide +kernel
theorem d_Model_feed_1 : decode prog_13_method_18_code 1 = .ok (.aload_n 0, 1) := by decide +kernel
theorem d_Model_feed_2 : decode prog_13_method_18_code 2 = .ok (.getfield 130, 3) := by decide +kernel
theorem d_Model_feed_5 : decode prog_13_method_18_code 5 = .ok (.bipush 20, 2) := by decide +kernel
theorem d_Model_feed_7 : decode prog_13_method_18_code 7 = .ok (.iadd, 1) := by decide +kernel
theorem d_Model_feed_8 : decode prog_13_method_18_code 8 = .ok (.ldc 7, 2) := by decide +kernel
theorem d_Model_feed_10 : decode prog_13_method_18_code 10 = .ok (.if_icmp .le 7, 3) := by decide +kernel
theorem d_Model_feed_13 : decode prog_13_method_18_code 13 = .ok (.iconst 1, 1) := by decide +kernel
theorem d_Model_feed_14 : decode prog_13_method_18_code 14 = .ok (.goto 4, 3) := by decide +kernel
theorem d_Model_feed_17 : decode prog_13_method_18_code 17 = .ok (.iconst 0, 1) := by decide +kernel
theorem d_Model_feed_18 : decode prog_13_method_18_code 18 = .ok (.iconst 1, 1) := by decide +kernel
theorem d_Model_feed_19 : decode prog_13_method_18_code 19 = .ok (.invokevirtual 133, 3) := by decide +kernel
theorem d_Model_feed_22 : decode prog_13_method_18_code 22 = .ok (.ifCond .eq 5, 3) := by decide +kernel
theorem d_Model_feed_25 : decode prog_13_method_18_code 25 = .ok (.iconst 0, 1) := by decide +kernel
theorem d_Model_feed_26 : decode prog_13_method_18_code 26 = .ok (.ireturn, 1) := by decide +kernel
theorem d_Model_feed_27 : decode prog_13_method_18_code 27 = .ok (.iconst 0, 1) := by decide +kernel
theorem d_Model_feed_28 : decode prog_13_method_18_code 28 = .ok (.istore 6, 2) := by decide +kernel
theorem d_Model_feed_30 : decode prog_13_method_18_code 30 = .ok (.iload 6, 2) := by decide +kernel
theorem d_Model_feed_32 : decode prog_13_method_18_code 32 = .ok (.bipush 20, 2) := by decide +kernel
theorem d_Model_feed_34 : decode prog_13_method_18_code 34 = .ok (.if_icmp .ge 83, 3) := by decide +kernel
theorem d_Model_feed_37 : decode prog_13_method_18_code 37 = .ok (.iload 6, 2) := by decide +kernel
theorem d_Model_feed_39 : decode prog_13_method_18_code 39 = .ok (.iconst 4, 1) := by decide +kernel
theorem d_Model_feed_40 : decode prog_13_method_18_code 40 = .ok (.if_icmp .ge 7, 3) := by decide +kernel
theorem d_Model_feed_43 : decode prog_13_method_18_code 43 = .ok (.iload_n 1, 1) := by decide +kernel
theorem d_Model_feed_44 : decode prog_13_method_18_code 44 = .ok (.goto 39, 3) := by decide +kernel
theorem d_Model_feed_47 : decode prog_13_method_18_code 47 = .ok (.iload 6, 2) := by decide +kernel
theorem d_Model_feed_49 : decode prog_13_method_18_code 49 = .ok (.bipush 8, 2) := by decide +kernel
theorem d_Model_feed_51 : decode prog_13_method_18_code 51 = .ok (.if_icmp .ge 7, 3) := by decide +kernel
theorem d_Model_feed_54 : decode prog_13_method_18_code 54 = .ok (.iload_n 2, 1) := by decide +kernel
theorem d_Model_feed_55 : decode prog_13_method_18_code 55 = .ok (.goto 28, 3) := by decide +kernel
theorem d_Model_feed_58 : decode prog_13_method_18_code 58 = .ok (.iload 6, 2) := by decide +kernel
theorem d_Model_feed_60 : decode prog_13_method_18_code 60 = .ok (.bipush 12, 2) := by decide +kernel
theorem d_Model_feed_62 : decode prog_13_method_18_code 62 = .ok (.if_icmp .ge 7, 3) := by decide +kernel
theorem d_Model_feed_65 : decode prog_13_method_18_code 65 = .ok (.iload_n 3, 1) := by decide +kernel
theorem d_Model_feed_66 : decode prog_13_method_18_code 66 = .ok (.goto 17, 3) := by decide +kernel
theorem d_Model_feed_69 : decode prog_13_method_18_code 69 = .ok (.iload 6, 2) := by decide +kernel
theorem d_Model_feed_71 : decode prog_13_method_18_code 71 = .ok (.bipush 16, 2) := by decide +kernel
theorem d_Model_feed_73 : decode prog_13_method_18_code 73 = .ok (.if_icmp .ge 8, 3) := by decide +kernel
theorem d_Model_feed_76 : decode prog_13_method_18_code 76 = .ok (.iload 4, 2) := by decide +kernel
theorem d_Model_feed_78 : decode prog_13_method_18_code 78 = .ok (.goto 5, 3) := by decide +kernel
theorem d_Model_feed_81 : decode prog_13_method_18_code 81 = .ok (.iload 5, 2) := by decide +kernel
theorem d_Model_feed_83 : decode prog_13_method_18_code 83 = .ok (.istore 7, 2) := by decide +kernel
theorem d_Model_feed_85 : decode prog_13_method_18_code 85 = .ok (.aload_n 0, 1) := by decide +kernel
theorem d_Model_feed_86 : decode prog_13_method_18_code 86 = .ok (.getfield 8, 3) := by decide +kernel
theorem d_Model_feed_89 : decode prog_13_method_18_code 89 = .ok (.aload_n 0, 1) := by decide +kernel
theorem d_Model_feed_90 : decode prog_13_method_18_code 90 = .ok (.getfield 130, 3) := by decide +kernel
theorem d_Model_feed_93 : decode prog_13_method_18_code 93 = .ok (.iload 6, 2) := by decide +kernel
theorem d_Model_feed_95 : decode prog_13_method_18_code 95 = .ok (.iadd, 1) := by decide +kernel
theorem d_Model_feed_96 : decode prog_13_method_18_code 96 = .ok (.iload 7, 2) := by decide +kernel
theorem d_Model_feed_98 : decode prog_13_method_18_code 98 = .ok (.bipush 24, 2) := by decide +kernel
theorem d_Model_feed_100 : decode prog_13_method_18_code 100 = .ok (.bipush 8, 2) := by decide +kernel
theorem d_Model_feed_102 : decode prog_13_method_18_code 102 = .ok (.iload 6, 2) := by decide +kernel
theorem d_Model_feed_104 : decode prog_13_method_18_code 104 = .ok (.iconst 4, 1) := by decide +kernel
theorem d_Model_feed_105 : decode prog_13_method_18_code 105 = .ok (.irem, 1) := by decide +kernel
theorem d_Model_feed_106 : decode prog_13_method_18_code 106 = .ok (.imul, 1) := by decide +kernel
theorem d_Model_feed_107 : decode prog_13_method_18_code 107 = .ok (.isub, 1) := by decide +kernel
theorem d_Model_feed_108 : decode prog_13_method_18_code 108 = .ok (.ishr, 1) := by decide +kernel
theorem d_Model_feed_109 : decode prog_13_method_18_code 109 = .ok (.i2b, 1) := by decide +kernel
theorem d_Model_feed_110 : decode prog_13_method_18_code 110 = .ok (.bastore, 1) := by decide +kernel
theorem d_Model_feed_111 : decode prog_13_method_18_code 111 = .ok (.iinc 6 1, 3) := by decide +kernel
theorem d_Model_feed_114 : decode prog_13_method_18_code 114 = .ok (.goto (-84), 3) := by decide +kernel
theorem d_Model_feed_117 : decode prog_13_method_18_code 117 = .ok (.aload_n 0, 1) := by decide +kernel
theorem d_Model_feed_118 : decode prog_13_method_18_code 118 = .ok (.dup, 1) := by decide +kernel
theorem d_Model_feed_119 : decode prog_13_method_18_code 119 = .ok (.getfield 130, 3) := by decide +kernel
theorem d_Model_feed_122 : decode prog_13_method_18_code 122 = .ok (.bipush 20, 2) := by decide +kernel
theorem d_Model_feed_124 : decode prog_13_method_18_code 124 = .ok (.iadd, 1) := by decide +kernel
theorem d_Model_feed_125 : decode prog_13_method_18_code 125 = .ok (.putfield 130, 3) := by decide +kernel
theorem d_Model_feed_128 : decode prog_13_method_18_code 128 = .ok (.aload_n 0, 1) := by decide +kernel
theorem d_Model_feed_129 : decode prog_13_method_18_code 129 = .ok (.getfield 130, 3) := by decide +kernel
theorem d_Model_feed_132 : decode prog_13_method_18_code 132 = .ok (.ireturn, 1) := by decide +kernel
noncomputable def M_Model_feed_b83 (x1 : Int32) (x2 : Int32) (x3 : Int32) (x4 : Int32) (x5 : Int32) (x6 : Int32) (s0 : Int32) (u : gSt) : Option ((Int32 × Int32 × Int32 × Int32 × Int32 × Int32 × gSt) ⊕ ((gSt))) :=
  gc (gIn ((u.1 42 1) + x6) (gLen 43)) <| (some (gsA u 43 (gIx ((u.1 42 1) + x6)) (((s0 >>> (((24 : Int32) - ((8 : Int32) * (x6 - x6 / (4 : Int32) * (4 : Int32)))) &&& (31 : Int32))).toInt8.toInt32).toInt8.toInt32))).bind fun u110 =>
  some (.inl (x1, x2, x3, x4, x5, x6 + (1 : Int32), u110))
set_option maxHeartbeats 4000000 in
set_option maxRecDepth 100000 in
theorem t_Model_feed_b83 (C : gX "TermDeskModel" prog_13_method_18_code 8 (some .int) 1 22 R cells slots cy D ρ A p s m args meth c) {x1 : Int32} {x2 : Int32} {x3 : Int32} {x4 : Int32} {x5 : Int32} {x6 : Int32} {s0 : Int32} {u : gSt} {z : (Int32 × Int32 × Int32 × Int32 × Int32 × Int32 × gSt) ⊕ ((gSt))} (hM : M_Model_feed_b83 x1 x2 x3 x4 x5 x6 s0 u = some z) (hN : ∀ x1' x2' x3' x4' x5' x6' u', z = .inl (x1', x2', x3', x4', x5', x6', u') → gAt p l e R s m args below meth c Q H0 cells slots cy D ρ A 8 30 [(0, .ref (ρ 42)), (1, .int (x1')), (2, .int (x2')), (3, .int (x3')), (4, .int (x4')), (5, .int (x5')), (6, .int (x6'))] [] (u')) (hE0 : ∀ u', z = .inr u' → gAt p l e R s m args below meth c Q H0 cells slots cy D ρ A 8 117 [(0, .ref (ρ 42))] [] (u')) : gAt p l e R s m args below meth c Q H0 cells slots cy D ρ A 8 83 [(0, .ref (ρ 42)), (1, .int x1), (2, .int x2), (3, .int x3), (4, .int x4), (5, .int x5), (6, .int x6)] [.int s0] u := by
  intro ls H locs hl hP hS
  have hx := C.1
  have hb := C.2.1
  unfold M_Model_feed_b83 at hM
  refine lv_istore (lv' := [(7, .int s0), (0, .ref (ρ 42)), (1, .int x1), (2, .int x2), (3, .int x3), (4, .int x4), (5, .int x5), (6, .int x6)]) hx hb d_Model_feed_83 hl (by decide) rfl (fun ls hl => ?_)
  refine lv_aload_n hx hb d_Model_feed_85 rfl (lv_at hl 1 rfl) ?_
  refine g_getR (b := 43) C hP gl_DeskModel_8 rfl rfl rfl d_Model_feed_86 ?_
  refine lv_aload_n hx hb d_Model_feed_89 rfl (lv_at hl 1 rfl) ?_
  refine g_getI C hP gl_DeskModel_130 rfl rfl d_Model_feed_90 ?_
  refine lv_iload hx hb d_Model_feed_93 (lv_at hl 7 rfl) ?_
  refine lv_iadd hx hb d_Model_feed_95 ?_
  refine lv_iload hx hb d_Model_feed_96 (lv_at hl 0 rfl) ?_
  refine lv_bipush (v := (24 : Int32)) hx hb d_Model_feed_98 (by decide) ?_
  refine lv_bipush (v := (8 : Int32)) hx hb d_Model_feed_100 (by decide) ?_
  refine lv_iload hx hb d_Model_feed_102 (lv_at hl 7 rfl) ?_
  refine lv_iconst (v := (4 : Int32)) hx hb d_Model_feed_104 (by decide) ?_
  refine lv_irem hx hb d_Model_feed_105 (by decide) ?_
  refine lv_imul hx hb d_Model_feed_106 ?_
  refine lv_isub hx hb d_Model_feed_107 ?_
  refine lv_ishr hx hb d_Model_feed_108 ?_
  refine lv_i2b (v := (s0 >>> (((24 : Int32) - ((8 : Int32) * (x6 - x6 / (4 : Int32) * (4 : Int32)))) &&& (31 : Int32))).toInt8.toInt32) hx hb d_Model_feed_109 rfl ?_
  obtain ⟨hi110, hM⟩ := gc_some hM
  obtain ⟨u110, e110, hM⟩ := gb_some hM
  refine g_bast C hP hS rfl hi110 d_Model_feed_110 (fun H locs hP hS => ?_)
  rw [Option.some.inj e110] at hP
  refine lv_iinc (k := 7) (v := x6 + (1 : Int32)) (lv' := [(6, .int (x6 + (1 : Int32))), (7, .int s0), (0, .ref (ρ 42)), (1, .int x1), (2, .int x2), (3, .int x3), (4, .int x4), (5, .int x5)]) hx hb d_Model_feed_111 hl rfl (congrArg (fun z => x6 + z) (by decide)) (by decide) rfl (fun ls hl => ?_)
  refine lv_goto (tgt := 30) hx hb d_Model_feed_114 (by decide) ?_
  exact hN _ _ _ _ _ _ _ (Option.some.inj hM).symm ls H locs (lv_sub hl [2, 3, 4, 5, 6, 7, 0] rfl) hP hS
noncomputable def M_Model_feed_b30 (x1 : Int32) (x2 : Int32) (x3 : Int32) (x4 : Int32) (x5 : Int32) (x6 : Int32) (u : gSt) : Option ((Int32 × Int32 × Int32 × Int32 × Int32 × Int32 × gSt) ⊕ ((gSt))) :=
  if (20 : Int32) ≤ x6 then
    (some (.inr u))
  else
    (if (4 : Int32) ≤ x6 then
      (if (8 : Int32) ≤ x6 then
        (if (12 : Int32) ≤ x6 then
          (if (16 : Int32) ≤ x6 then
            (M_Model_feed_b83 x1 x2 x3 x4 x5 x6 x5 u)
          else
            (M_Model_feed_b83 x1 x2 x3 x4 x5 x6 x4 u))
        else
          (M_Model_feed_b83 x1 x2 x3 x4 x5 x6 x3 u))
      else
        (M_Model_feed_b83 x1 x2 x3 x4 x5 x6 x2 u))
    else
      (M_Model_feed_b83 x1 x2 x3 x4 x5 x6 x1 u))
set_option maxHeartbeats 4000000 in
set_option maxRecDepth 100000 in
theorem t_Model_feed_b30 (C : gX "TermDeskModel" prog_13_method_18_code 8 (some .int) 1 22 R cells slots cy D ρ A p s m args meth c) {x1 : Int32} {x2 : Int32} {x3 : Int32} {x4 : Int32} {x5 : Int32} {x6 : Int32} {u : gSt} {z : (Int32 × Int32 × Int32 × Int32 × Int32 × Int32 × gSt) ⊕ ((gSt))} (hM : M_Model_feed_b30 x1 x2 x3 x4 x5 x6 u = some z) (hN : ∀ x1' x2' x3' x4' x5' x6' u', z = .inl (x1', x2', x3', x4', x5', x6', u') → gAt p l e R s m args below meth c Q H0 cells slots cy D ρ A 8 30 [(0, .ref (ρ 42)), (1, .int (x1')), (2, .int (x2')), (3, .int (x3')), (4, .int (x4')), (5, .int (x5')), (6, .int (x6'))] [] (u')) (hE0 : ∀ u', z = .inr u' → gAt p l e R s m args below meth c Q H0 cells slots cy D ρ A 8 117 [(0, .ref (ρ 42))] [] (u')) : gAt p l e R s m args below meth c Q H0 cells slots cy D ρ A 8 30 [(0, .ref (ρ 42)), (1, .int x1), (2, .int x2), (3, .int x3), (4, .int x4), (5, .int x5), (6, .int x6)] [] u := by
  intro ls H locs hl hP hS
  have hx := C.1
  have hb := C.2.1
  unfold M_Model_feed_b30 at hM
  refine lv_iload hx hb d_Model_feed_30 (lv_at hl 6 rfl) ?_
  refine lv_bipush (v := (20 : Int32)) hx hb d_Model_feed_32 (by decide) ?_
  refine lv_icmp_ge (tgt := 117) hx hb d_Model_feed_34 (by decide) (fun hc34 => ?_) (fun hc34 => ?_)
  · replace hM := gi_t hc34 hM
    exact hE0 _ (Option.some.inj hM).symm ls H locs (lv_sub hl [0] rfl) hP hS
  · replace hM := gi_f hc34 hM
    refine lv_iload hx hb d_Model_feed_37 (lv_at hl 6 rfl) ?_
    refine lv_iconst (v := (4 : Int32)) hx hb d_Model_feed_39 (by decide) ?_
    refine lv_icmp_ge (tgt := 47) hx hb d_Model_feed_40 (by decide) (fun hc40 => ?_) (fun hc40 => ?_)
    · replace hM := gi_t hc40 hM
      refine lv_iload hx hb d_Model_feed_47 (lv_at hl 6 rfl) ?_
      refine lv_bipush (v := (8 : Int32)) hx hb d_Model_feed_49 (by decide) ?_
      refine lv_icmp_ge (tgt := 58) hx hb d_Model_feed_51 (by decide) (fun hc51 => ?_) (fun hc51 => ?_)
      · replace hM := gi_t hc51 hM
        refine lv_iload hx hb d_Model_feed_58 (lv_at hl 6 rfl) ?_
        refine lv_bipush (v := (12 : Int32)) hx hb d_Model_feed_60 (by decide) ?_
        refine lv_icmp_ge (tgt := 69) hx hb d_Model_feed_62 (by decide) (fun hc62 => ?_) (fun hc62 => ?_)
        · replace hM := gi_t hc62 hM
          refine lv_iload hx hb d_Model_feed_69 (lv_at hl 6 rfl) ?_
          refine lv_bipush (v := (16 : Int32)) hx hb d_Model_feed_71 (by decide) ?_
          refine lv_icmp_ge (tgt := 81) hx hb d_Model_feed_73 (by decide) (fun hc73 => ?_) (fun hc73 => ?_)
          · replace hM := gi_t hc73 hM
            refine lv_iload hx hb d_Model_feed_81 (lv_at hl 5 rfl) ?_
            exact t_Model_feed_b83 C hM hN hE0 ls H locs (lv_sub hl [0, 1, 2, 3, 4, 5, 6] rfl) hP hS
          · replace hM := gi_f hc73 hM
            refine lv_iload hx hb d_Model_feed_76 (lv_at hl 4 rfl) ?_
            refine lv_goto (tgt := 83) hx hb d_Model_feed_78 (by decide) ?_
            exact t_Model_feed_b83 C hM hN hE0 ls H locs (lv_sub hl [0, 1, 2, 3, 4, 5, 6] rfl) hP hS
        · replace hM := gi_f hc62 hM
          refine lv_iload_n hx hb d_Model_feed_65 rfl (lv_at hl 3 rfl) ?_
          refine lv_goto (tgt := 83) hx hb d_Model_feed_66 (by decide) ?_
          exact t_Model_feed_b83 C hM hN hE0 ls H locs (lv_sub hl [0, 1, 2, 3, 4, 5, 6] rfl) hP hS
      · replace hM := gi_f hc51 hM
        refine lv_iload_n hx hb d_Model_feed_54 rfl (lv_at hl 2 rfl) ?_
        refine lv_goto (tgt := 83) hx hb d_Model_feed_55 (by decide) ?_
        exact t_Model_feed_b83 C hM hN hE0 ls H locs (lv_sub hl [0, 1, 2, 3, 4, 5, 6] rfl) hP hS
    · replace hM := gi_f hc40 hM
      refine lv_iload_n hx hb d_Model_feed_43 rfl (lv_at hl 1 rfl) ?_
      refine lv_goto (tgt := 83) hx hb d_Model_feed_44 (by decide) ?_
      exact t_Model_feed_b83 C hM hN hE0 ls H locs (lv_sub hl [0, 1, 2, 3, 4, 5, 6] rfl) hP hS
noncomputable def M_Model_feed_L30 : (Int32 × Int32 × Int32 × Int32 × Int32 × Int32 × gSt) → Option ((Int32 × Int32 × Int32 × Int32 × Int32 × Int32 × gSt) ⊕ ((gSt))) := fun x => M_Model_feed_b30 x.1 x.2.1 x.2.2.1 x.2.2.2.1 x.2.2.2.2.1 x.2.2.2.2.2.1 x.2.2.2.2.2.2
theorem t_Model_feed_L30 (C : gX "TermDeskModel" prog_13_method_18_code 8 (some .int) 1 22 R cells slots cy D ρ A p s m args meth c) {x1 : Int32} {x2 : Int32} {x3 : Int32} {x4 : Int32} {x5 : Int32} {x6 : Int32} {u : gSt} {yy : (gSt)} (hL : gLp M_Model_feed_L30 (x1, x2, x3, x4, x5, x6, u) = some yy) (hE0 : (∀ y', yy = y' → gAt p l e R s m args below meth c Q H0 cells slots cy D ρ A 8 117 [(0, .ref (ρ 42))] [] (y'))) : gAt p l e R s m args below meth c Q H0 cells slots cy D ρ A 8 30 [(0, .ref (ρ 42)), (1, .int x1), (2, .int x2), (3, .int x3), (4, .int x4), (5, .int x5), (6, .int x6)] [] u :=
  g_loop (f := M_Model_feed_L30) (P := fun x => gAt p l e R s m args below meth c Q H0 cells slots cy D ρ A 8 30 [(0, .ref (ρ 42)), (1, .int x.1), (2, .int x.2.1), (3, .int x.2.2.1), (4, .int x.2.2.2.1), (5, .int x.2.2.2.2.1), (6, .int x.2.2.2.2.2.1)] [] x.2.2.2.2.2.2) (E := fun yy => (∀ y', yy = y' → gAt p l e R s m args below meth c Q H0 cells slots cy D ρ A 8 117 [(0, .ref (ρ 42))] [] (y'))) (fun x z hf hN hE => t_Model_feed_b30 C hf (fun x1' x2' x3' x4' x5' x6' u' h => hN (x1', x2', x3', x4', x5', x6', u') h) (fun u' h => (hE _ h) u' rfl)) hL hE0
noncomputable def M_Model_feed_b18 (x1 : Int32) (x2 : Int32) (x3 : Int32) (x4 : Int32) (x5 : Int32) (s0 : Int32) (u : gSt) : Option ((Int32 × gSt)) :=
  (M_Model_fails s0 (1 : Int32) u).bind fun q19 =>
  if q19.1 = (0 : Int32) then
    ((gLp M_Model_feed_L30 (x1, x2, x3, x4, x5, (0 : Int32), q19.2)).bind fun y30 =>
    (some (gsF y30 42 1 ((y30.1 42 1) + (20 : Int32)))).bind fun u125 =>
    some (u125.1 42 1, u125))
  else
    (some ((0 : Int32), q19.2))
set_option maxHeartbeats 4000000 in
set_option maxRecDepth 100000 in
theorem t_Model_feed_b18 (C : gX "TermDeskModel" prog_13_method_18_code 8 (some .int) 1 22 R cells slots cy D ρ A p s m args meth c) {x1 : Int32} {x2 : Int32} {x3 : Int32} {x4 : Int32} {x5 : Int32} {s0 : Int32} {u : gSt} {z : (Int32 × gSt)} (hM : M_Model_feed_b18 x1 x2 x3 x4 x5 s0 u = some z) (hR : gRtI p l e R s m args below meth c Q H0 cells slots cy D ρ A prog_13_method_18_code z.1 z.2) : gAt p l e R s m args below meth c Q H0 cells slots cy D ρ A 8 18 [(0, .ref (ρ 42)), (1, .int x1), (2, .int x2), (3, .int x3), (4, .int x4), (5, .int x5)] [.int s0, .ref (ρ 42)] u := by
  intro ls H locs hl hP hS
  have hx := C.1
  have hb := C.2.1
  unfold M_Model_feed_b18 at hM
  refine lv_iconst (v := (1 : Int32)) hx hb d_Model_feed_18 (by decide) ?_
  obtain ⟨q19, hq19, hM⟩ := gb_some hM
  refine g_backI (g_runV (As := [.int s0, .int (1 : Int32)]) C hP (c_Model_fails C.2.2.2.2.2.2.2.2.1 hq19) gi_Model_fails gm_Model_133 rfl rfl (by decide) (by decide) hl.1 rfl (Nat.le_of_ble_eq_true rfl) d_Model_feed_19) hS (fun H locs hP hS => ?_)
  refine lv_if_eq (tgt := 27) hx hb d_Model_feed_22 (by decide) (fun hc22 => ?_) (fun hc22 => ?_)
  · replace hM := gi_t hc22 hM
    refine lv_iconst (v := (0 : Int32)) hx hb d_Model_feed_27 (by decide) ?_
    refine lv_istore (lv' := [(6, .int (0 : Int32)), (0, .ref (ρ 42)), (1, .int x1), (2, .int x2), (3, .int x3), (4, .int x4), (5, .int x5)]) hx hb d_Model_feed_28 hl (by decide) rfl (fun ls hl => ?_)
    obtain ⟨y30, hL30, hM⟩ := gb_some hM
    refine t_Model_feed_L30 C hL30 (fun y30_0 hy => ?_) ls H locs (lv_sub hl [1, 2, 3, 4, 5, 6, 0] rfl) hP hS
    · subst hy
      intro ls H locs hl hP hS
      refine lv_aload_n hx hb d_Model_feed_117 rfl (lv_at hl 0 rfl) ?_
      refine lv_dup hx hb d_Model_feed_118 rfl ?_
      refine g_getI C hP gl_DeskModel_130 rfl rfl d_Model_feed_119 ?_
      refine lv_bipush (v := (20 : Int32)) hx hb d_Model_feed_122 (by decide) ?_
      refine lv_iadd hx hb d_Model_feed_124 ?_
      obtain ⟨u125, e125, hM⟩ := gb_some hM
      refine g_putI C hP hS gl_DeskModel_130 rfl rfl gq_8_1 d_Model_feed_125 (fun H locs hP hS => ?_)
      rw [Option.some.inj e125] at hP
      refine lv_aload_n hx hb d_Model_feed_128 rfl (lv_at hl 0 rfl) ?_
      refine g_getI C hP gl_DeskModel_130 rfl rfl d_Model_feed_129 ?_
      obtain rfl := Option.some.inj hM
      exact hR _ ls H locs d_Model_feed_132 hP hS
  · replace hM := gi_f hc22 hM
    refine lv_iconst (v := (0 : Int32)) hx hb d_Model_feed_25 (by decide) ?_
    obtain rfl := Option.some.inj hM
    exact hR _ ls H locs d_Model_feed_26 hP hS
noncomputable def M_Model_feed (x1 : Int32) (x2 : Int32) (x3 : Int32) (x4 : Int32) (x5 : Int32) (u : gSt) : Option ((Int32 × gSt)) :=
  if ((u.1 42 1) + (20 : Int32)) ≤ (40000 : Int32) then
    (M_Model_feed_b18 x1 x2 x3 x4 x5 (0 : Int32) u)
  else
    (M_Model_feed_b18 x1 x2 x3 x4 x5 (1 : Int32) u)
set_option maxHeartbeats 4000000 in
set_option maxRecDepth 100000 in
theorem t_Model_feed (C : gX "TermDeskModel" prog_13_method_18_code 8 (some .int) 1 22 R cells slots cy D ρ A p s m args meth c) {x1 : Int32} {x2 : Int32} {x3 : Int32} {x4 : Int32} {x5 : Int32} {u : gSt} {z : (Int32 × gSt)} (hM : M_Model_feed x1 x2 x3 x4 x5 u = some z) (hR : gRtI p l e R s m args below meth c Q H0 cells slots cy D ρ A prog_13_method_18_code z.1 z.2) : gAt p l e R s m args below meth c Q H0 cells slots cy D ρ A 8 0 [(0, .ref (ρ 42)), (1, .int x1), (2, .int x2), (3, .int x3), (4, .int x4), (5, .int x5)] [] u := by
  intro ls H locs hl hP hS
  have hx := C.1
  have hb := C.2.1
  unfold M_Model_feed at hM
  refine lv_aload_n hx hb d_Model_feed_0 rfl (lv_at hl 0 rfl) ?_
  refine lv_aload_n hx hb d_Model_feed_1 rfl (lv_at hl 0 rfl) ?_
  refine g_getI C hP gl_DeskModel_130 rfl rfl d_Model_feed_2 ?_
  refine lv_bipush (v := (20 : Int32)) hx hb d_Model_feed_5 (by decide) ?_
  refine lv_iadd hx hb d_Model_feed_7 ?_
  refine lv_ldc (v := (40000 : Int32)) hx hb C.2.2.2.2.1 (C.2.2.2.2.2.1 _ (gWs_at 1027 (by decide +kernel) (by decide +kernel))) d_Model_feed_8 ?_
  refine lv_icmp_le (tgt := 17) hx hb d_Model_feed_10 (by decide) (fun hc10 => ?_) (fun hc10 => ?_)
  · replace hM := gi_t hc10 hM
    refine lv_iconst (v := (0 : Int32)) hx hb d_Model_feed_17 (by decide) ?_
    exact t_Model_feed_b18 C hM hR ls H locs (lv_sub hl [0, 1, 2, 3, 4, 5] rfl) hP hS
  · replace hM := gi_f hc10 hM
    refine lv_iconst (v := (1 : Int32)) hx hb d_Model_feed_13 (by decide) ?_
    refine lv_goto (tgt := 18) hx hb d_Model_feed_14 (by decide) ?_
    exact t_Model_feed_b18 C hM hR ls H locs (lv_sub hl [0, 1, 2, 3, 4, 5] rfl) hP hS
theorem c_Model_feed {l : Launch} {cy : Nat → ClassId} {D : va_G} {ρ : Nat → Nat} {A : Nat → Prop} (hD : gD ρ A) {x1 : Int32} {x2 : Int32} {x3 : Int32} {x4 : Int32} {x5 : Int32} {u : gSt} {z : (Int32 × gSt)} (hM : M_Model_feed x1 x2 x3 x4 x5 u = some z) : gCtI l y_Model_feed prog_13_method_18_code 8 (some .int) 1 22 cy D ρ A [.ref (ρ 42), .int x1, .int x2, .int x3, .int x4, .int x5] u z.1 z.2 :=
  g_met (by decide) hD (Nat.le_of_ble_eq_true rfl) (fun p e s m below meth c ls X hl hP => t_Model_feed X hM (fun pc ls H locs hd hP hS => g_iret X hP hS hd) ls _ [] hl hP va_S.rf)
end
section
variable {p : Program} {l : Launch} {e : Env} {R : Room} {s : State} {m : MethodId} {args : Array Value} {below : List Frame} {meth : Method} {c : Code} {Q : State → Prop} {H0 : Heap} {cells slots : Nat} {cy : Nat → ClassId} {D : va_G} {ρ : Nat → Nat} {A : Nat → Prop}
def y_Model_trim : MethodName := ⟨"TermDeskModel", "trim", "(I)I"⟩
theorem gi_Model_trim : gMi y_Model_trim prog_13_method_19_code 2 (some .int) 1 8 := ⟨(gWs_at 1170 (by decide +kernel) (by decide +kernel)), (gWs_at 1168 (by decide +kernel) (by decide +kernel)), (gWs_at 1169 (by decide +kernel) (by decide +kernel)), (gWs_at 125 (by decide +kernel) (by decide +kernel)), ⟨by decide +kernel, by decide +kernel, by decide +kernel⟩, _, _, rfl⟩
theorem gm_Law_71 : gMk "TermDeskLaw" 71 y_Model_trim := Or.inl (gWs_at 1167 (by decide +kernel) (by decide +kernel))
theorem d_Model_trim_0 : decode prog_13_method_19_code 0 = .ok (.aload_n 0, 1) := by decide +kernel
theorem d_Model_trim_1 : decode prog_13_method_19_code 1 = .ok (.iload_n 1, 1) := by decide +kernel
theorem d_Model_trim_2 : decode prog_13_method_19_code 2 = .ok (.ifCond .lt 17, 3) := by decide +kernel
theorem d_Model_trim_5 : decode prog_13_method_19_code 5 = .ok (.iload_n 1, 1) := by decide +kernel
theorem d_Model_trim_6 : decode prog_13_method_19_code 6 = .ok (.bipush 20, 2) := by decide +kernel
theorem d_Model_trim_8 : decode prog_13_method_19_code 8 = .ok (.if_icmp .gt 11, 3) := by decide +kernel
theorem d_Model_trim_11 : decode prog_13_method_19_code 11 = .ok (.iload_n 1, 1) := by decide +kernel
theorem d_Model_trim_12 : decode prog_13_method_19_code 12 = .ok (.aload_n 0, 1) := by decide +kernel
theorem d_Model_trim_13 : decode prog_13_method_19_code 13 = .ok (.getfield 130, 3) := by decide +kernel
theorem d_Model_trim_16 : decode prog_13_method_19_code 16 = .ok (.if_icmp .le 7, 3) := by decide +kernel
theorem d_Model_trim_19 : decode prog_13_method_19_code 19 = .ok (.iconst 1, 1) := by decide +kernel
theorem d_Model_trim_20 : decode prog_13_method_19_code 20 = .ok (.goto 4, 3) := by decide +kernel
theorem d_Model_trim_23 : decode prog_13_method_19_code 23 = .ok (.iconst 0, 1) := by decide +kernel
theorem d_Model_trim_24 : decode prog_13_method_19_code 24 = .ok (.iconst 1, 1) := by decide +kernel
theorem d_Model_trim_25 : decode prog_13_method_19_code 25 = .ok (.invokevirtual 133, 3) := by decide +kernel
theorem d_Model_trim_28 : decode prog_13_method_19_code 28 = .ok (.ifCond .eq 5, 3) := by decide +kernel
theorem d_Model_trim_31 : decode prog_13_method_19_code 31 = .ok (.iconst 0, 1) := by decide +kernel
theorem d_Model_trim_32 : decode prog_13_method_19_code 32 = .ok (.ireturn, 1) := by decide +kernel
theorem d_Model_trim_33 : decode prog_13_method_19_code 33 = .ok (.aload_n 0, 1) := by decide +kernel
theorem d_Model_trim_34 : decode prog_13_method_19_code 34 = .ok (.dup, 1) := by decide +kernel
theorem d_Model_trim_35 : decode prog_13_method_19_code 35 = .ok (.getfield 130, 3) := by decide +kernel
theorem d_Model_trim_38 : decode prog_13_method_19_code 38 = .ok (.iload_n 1, 1) := by decide +kernel
theorem d_Model_trim_39 : decode prog_13_method_19_code 39 = .ok (.isub, 1) := by decide +kernel
theorem d_Model_trim_40 : decode prog_13_method_19_code 40 = .ok (.putfield 130, 3) := by decide +kernel
theorem d_Model_trim_43 : decode prog_13_method_19_code 43 = .ok (.aload_n 0, 1) := by decide +kernel
theorem d_Model_trim_44 : decode prog_13_method_19_code 44 = .ok (.getfield 130, 3) := by decide +kernel
theorem d_Model_trim_47 : decode prog_13_method_19_code 47 = .ok (.ireturn, 1) := by decide +kernel
noncomputable def M_Model_trim_b24 (x1 : Int32) (s0 : Int32) (u : gSt) : Option ((Int32 × gSt)) :=
  (M_Model_fails s0 (1 : Int32) u).bind fun q25 =>
  if q25.1 = (0 : Int32) then
    ((some (gsF q25.2 42 1 ((q25.2.1 42 1) - x1))).bind fun u40 =>
    some (u40.1 42 1, u40))
  else
    (some ((0 : Int32), q25.2))
set_option maxHeartbeats 4000000 in
set_option maxRecDepth 100000 in
theorem t_Model_trim_b24 (C : gX "TermDeskModel" prog_13_method_19_code 2 (some .int) 1 22 R cells slots cy D ρ A p s m args meth c) {x1 : Int32} {s0 : Int32} {u : gSt} {z : (Int32 × gSt)} (hM : M_Model_trim_b24 x1 s0 u = some z) (hR : gRtI p l e R s m args below meth c Q H0 cells slots cy D ρ A prog_13_method_19_code z.1 z.2) : gAt p l e R s m args below meth c Q H0 cells slots cy D ρ A 2 24 [(0, .ref (ρ 42)), (1, .int x1)] [.int s0, .ref (ρ 42)] u := by
  intro ls H locs hl hP hS
  have hx := C.1
  have hb := C.2.1
  unfold M_Model_trim_b24 at hM
  refine lv_iconst (v := (1 : Int32)) hx hb d_Model_trim_24 (by decide) ?_
  obtain ⟨q25, hq25, hM⟩ := gb_some hM
  refine g_backI (g_runV (As := [.int s0, .int (1 : Int32)]) C hP (c_Model_fails C.2.2.2.2.2.2.2.2.1 hq25) gi_Model_fails gm_Model_133 rfl rfl (by decide) (by decide) hl.1 rfl (Nat.le_of_ble_eq_true rfl) d_Model_trim_25) hS (fun H locs hP hS => ?_)
  refine lv_if_eq (tgt := 33) hx hb d_Model_trim_28 (by decide) (fun hc28 => ?_) (fun hc28 => ?_)
  · replace hM := gi_t hc28 hM
    refine lv_aload_n hx hb d_Model_trim_33 rfl (lv_at hl 0 rfl) ?_
    refine lv_dup hx hb d_Model_trim_34 rfl ?_
    refine g_getI C hP gl_DeskModel_130 rfl rfl d_Model_trim_35 ?_
    refine lv_iload_n hx hb d_Model_trim_38 rfl (lv_at hl 1 rfl) ?_
    refine lv_isub hx hb d_Model_trim_39 ?_
    obtain ⟨u40, e40, hM⟩ := gb_some hM
    refine g_putI C hP hS gl_DeskModel_130 rfl rfl gq_8_1 d_Model_trim_40 (fun H locs hP hS => ?_)
    rw [Option.some.inj e40] at hP
    refine lv_aload_n hx hb d_Model_trim_43 rfl (lv_at hl 0 rfl) ?_
    refine g_getI C hP gl_DeskModel_130 rfl rfl d_Model_trim_44 ?_
    obtain rfl := Option.some.inj hM
    exact hR _ ls H locs d_Model_trim_47 hP hS
  · replace hM := gi_f hc28 hM
    refine lv_iconst (v := (0 : Int32)) hx hb d_Model_trim_31 (by decide) ?_
    obtain rfl := Option.some.inj hM
    exact hR _ ls H locs d_Model_trim_32 hP hS
noncomputable def M_Model_trim_b19 (x1 : Int32) (u : gSt) : Option ((Int32 × gSt)) :=
  M_Model_trim_b24 x1 (1 : Int32) u
set_option maxHeartbeats 4000000 in
set_option maxRecDepth 100000 in
theorem t_Model_trim_b19 (C : gX "TermDeskModel" prog_13_method_19_code 2 (some .int) 1 22 R cells slots cy D ρ A p s m args meth c) {x1 : Int32} {u : gSt} {z : (Int32 × gSt)} (hM : M_Model_trim_b19 x1 u = some z) (hR : gRtI p l e R s m args below meth c Q H0 cells slots cy D ρ A prog_13_method_19_code z.1 z.2) : gAt p l e R s m args below meth c Q H0 cells slots cy D ρ A 2 19 [(0, .ref (ρ 42)), (1, .int x1)] [.ref (ρ 42)] u := by
  intro ls H locs hl hP hS
  have hx := C.1
  have hb := C.2.1
  unfold M_Model_trim_b19 at hM
  refine lv_iconst (v := (1 : Int32)) hx hb d_Model_trim_19 (by decide) ?_
  refine lv_goto (tgt := 24) hx hb d_Model_trim_20 (by decide) ?_
  exact t_Model_trim_b24 C hM hR ls H locs (lv_sub hl [0, 1] rfl) hP hS
noncomputable def M_Model_trim (x1 : Int32) (u : gSt) : Option ((Int32 × gSt)) :=
  if x1 < (0 : Int32) then
    (M_Model_trim_b19 x1 u)
  else
    (if (20 : Int32) < x1 then
      (M_Model_trim_b19 x1 u)
    else
      (if x1 ≤ (u.1 42 1) then
        (M_Model_trim_b24 x1 (0 : Int32) u)
      else
        (M_Model_trim_b19 x1 u)))
set_option maxHeartbeats 4000000 in
set_option maxRecDepth 100000 in
theorem t_Model_trim (C : gX "TermDeskModel" prog_13_method_19_code 2 (some .int) 1 22 R cells slots cy D ρ A p s m args meth c) {x1 : Int32} {u : gSt} {z : (Int32 × gSt)} (hM : M_Model_trim x1 u = some z) (hR : gRtI p l e R s m args below meth c Q H0 cells slots cy D ρ A prog_13_method_19_code z.1 z.2) : gAt p l e R s m args below meth c Q H0 cells slots cy D ρ A 2 0 [(0, .ref (ρ 42)), (1, .int x1)] [] u := by
  intro ls H locs hl hP hS
  have hx := C.1
  have hb := C.2.1
  unfold M_Model_trim at hM
  refine lv_aload_n hx hb d_Model_trim_0 rfl (lv_at hl 0 rfl) ?_
  refine lv_iload_n hx hb d_Model_trim_1 rfl (lv_at hl 1 rfl) ?_
  refine lv_if_lt (tgt := 19) hx hb d_Model_trim_2 (by decide) (fun hc2 => ?_) (fun hc2 => ?_)
  · replace hM := gi_t hc2 hM
    exact t_Model_trim_b19 C hM hR ls H locs (lv_sub hl [0, 1] rfl) hP hS
  · replace hM := gi_f hc2 hM
    refine lv_iload_n hx hb d_Model_trim_5 rfl (lv_at hl 1 rfl) ?_
    refine lv_bipush (v := (20 : Int32)) hx hb d_Model_trim_6 (by decide) ?_
    refine lv_icmp_gt (tgt := 19) hx hb d_Model_trim_8 (by decide) (fun hc8 => ?_) (fun hc8 => ?_)
    · replace hM := gi_t hc8 hM
      exact t_Model_trim_b19 C hM hR ls H locs (lv_sub hl [0, 1] rfl) hP hS
    · replace hM := gi_f hc8 hM
      refine lv_iload_n hx hb d_Model_trim_11 rfl (lv_at hl 1 rfl) ?_
      refine lv_aload_n hx hb d_Model_trim_12 rfl (lv_at hl 0 rfl) ?_
      refine g_getI C hP gl_DeskModel_130 rfl rfl d_Model_trim_13 ?_
      refine lv_icmp_le (tgt := 23) hx hb d_Model_trim_16 (by decide) (fun hc16 => ?_) (fun hc16 => ?_)
      · replace hM := gi_t hc16 hM
        refine lv_iconst (v := (0 : Int32)) hx hb d_Model_trim_23 (by decide) ?_
        exact t_Model_trim_b24 C hM hR ls H locs (lv_sub hl [0, 1] rfl) hP hS
      · replace hM := gi_f hc16 hM
        exact t_Model_trim_b19 C hM hR ls H locs (lv_sub hl [0, 1] rfl) hP hS
theorem c_Model_trim {l : Launch} {cy : Nat → ClassId} {D : va_G} {ρ : Nat → Nat} {A : Nat → Prop} (hD : gD ρ A) {x1 : Int32} {u : gSt} {z : (Int32 × gSt)} (hM : M_Model_trim x1 u = some z) : gCtI l y_Model_trim prog_13_method_19_code 2 (some .int) 1 22 cy D ρ A [.ref (ρ 42), .int x1] u z.1 z.2 :=
  g_met (by decide) hD (Nat.le_of_ble_eq_true rfl) (fun p e s m below meth c ls X hl hP => t_Model_trim X hM (fun pc ls H locs hd hP hS => g_iret X hP hS hd) ls _ [] hl hP va_S.rf)
end
section
variable {p : Program} {l : Launch} {e : Env} {R : Room} {s : State} {m : MethodId} {args : Array Value} {below : List Frame} {meth : Method} {c : Code} {Q : State → Prop} {H0 : Heap} {cells slots : Nat} {cy : Nat → ClassId} {D : va_G} {ρ : Nat → Nat} {A : Nat → Prop}
def y_Model_stop : MethodName := ⟨"TermDeskModel", "stop", "(II)Z"⟩
theorem gi_Model_stop : gMi y_Model_stop prog_13_method_20_code 3 (some .boolean) 2 8 := ⟨(gWs_at 1194 (by decide +kernel) (by decide +kernel)), (gWs_at 1193 (by decide +kernel) (by decide +kernel)), (gWs_at 72 (by decide +kernel) (by decide +kernel)), (gWs_at 125 (by decide +kernel) (by decide +kernel)), ⟨by decide +kernel, by decide +kernel, by decide +kernel⟩, _, _, rfl⟩
theorem gm_Model_146 : gMk "TermDeskModel" 146 y_Model_stop := Or.inl (gWs_at 1191 (by decide +kernel) (by decide +kernel))
theorem d_Model_stop_0 : decode prog_13_method_20_code 0 = .ok (.aload_n 0, 1) := by decide +kernel
theorem d_Model_stop_1 : decode prog_13_method_20_code 1 = .ok (.getfield 137, 3) := by decide +kernel
theorem d_Model_stop_4 : decode prog_13_method_20_code 4 = .ok (.ifCond .ne 13, 3) := by decide +kernel
theorem d_Model_stop_7 : decode prog_13_method_20_code 7 = .ok (.aload_n 0, 1) := by decide +kernel
theorem d_Model_stop_8 : decode prog_13_method_20_code 8 = .ok (.iload_n 1, 1) := by decide +kernel
theorem d_Model_stop_9 : decode prog_13_method_20_code 9 = .ok (.putfield 137, 3) := by decide +kernel
theorem d_Model_stop_12 : decode prog_13_method_20_code 12 = .ok (.aload_n 0, 1) := by decide +kernel
theorem d_Model_stop_13 : decode prog_13_method_20_code 13 = .ok (.iload_n 2, 1) := by decide +kernel
theorem d_Model_stop_14 : decode prog_13_method_20_code 14 = .ok (.putfield 14, 3) := by decide +kernel
theorem d_Model_stop_17 : decode prog_13_method_20_code 17 = .ok (.iconst 0, 1) := by decide +kernel
theorem d_Model_stop_18 : decode prog_13_method_20_code 18 = .ok (.ireturn, 1) := by decide +kernel
noncomputable def M_Model_stop_b17 (u : gSt) : Option ((Int32 × gSt)) :=
  some ((0 : Int32), u)
set_option maxHeartbeats 4000000 in
set_option maxRecDepth 100000 in
theorem t_Model_stop_b17 (C : gX "TermDeskModel" prog_13_method_20_code 3 (some .boolean) 0 0 R cells slots cy D ρ A p s m args meth c) {u : gSt} {z : (Int32 × gSt)} (hM : M_Model_stop_b17 u = some z) (hR : gRtZ p l e R s m args below meth c Q H0 cells slots cy D ρ A prog_13_method_20_code z.1 z.2) : gAt p l e R s m args below meth c Q H0 cells slots cy D ρ A 3 17 [] [] u := by
  intro ls H locs hl hP hS
  have hx := C.1
  have hb := C.2.1
  unfold M_Model_stop_b17 at hM
  refine lv_iconst (v := (0 : Int32)) hx hb d_Model_stop_17 (by decide) ?_
  obtain rfl := Option.some.inj hM
  exact hR _ ls H locs rfl d_Model_stop_18 hP hS
noncomputable def M_Model_stop (x1 : Int32) (x2 : Int32) (u : gSt) : Option ((Int32 × gSt)) :=
  if (u.1 42 2) = (0 : Int32) then
    ((some (gsF u 42 2 x1)).bind fun u9 =>
    (some (gsF u9 42 3 x2)).bind fun u14 =>
    M_Model_stop_b17 u14)
  else
    (M_Model_stop_b17 u)
set_option maxHeartbeats 4000000 in
set_option maxRecDepth 100000 in
theorem t_Model_stop (C : gX "TermDeskModel" prog_13_method_20_code 3 (some .boolean) 0 0 R cells slots cy D ρ A p s m args meth c) {x1 : Int32} {x2 : Int32} {u : gSt} {z : (Int32 × gSt)} (hM : M_Model_stop x1 x2 u = some z) (hR : gRtZ p l e R s m args below meth c Q H0 cells slots cy D ρ A prog_13_method_20_code z.1 z.2) : gAt p l e R s m args below meth c Q H0 cells slots cy D ρ A 3 0 [(0, .ref (ρ 42)), (1, .int x1), (2, .int x2)] [] u := by
  intro ls H locs hl hP hS
  have hx := C.1
  have hb := C.2.1
  unfold M_Model_stop at hM
  refine lv_aload_n hx hb d_Model_stop_0 rfl (lv_at hl 0 rfl) ?_
  refine g_getI C hP gl_DeskModel_137 rfl rfl d_Model_stop_1 ?_
  refine lv_if_ne (tgt := 17) hx hb d_Model_stop_4 (by decide) (fun hc4 => ?_) (fun hc4 => ?_)
  · replace hM := gi_f hc4 hM
    exact t_Model_stop_b17 C hM hR ls H locs (lv_sub hl [] rfl) hP hS
  · replace hM := gi_t hc4 hM
    refine lv_aload_n hx hb d_Model_stop_7 rfl (lv_at hl 0 rfl) ?_
    refine lv_iload_n hx hb d_Model_stop_8 rfl (lv_at hl 1 rfl) ?_
    obtain ⟨u9, e9, hM⟩ := gb_some hM
    refine g_putI C hP hS gl_DeskModel_137 rfl rfl gq_8_2 d_Model_stop_9 (fun H locs hP hS => ?_)
    rw [Option.some.inj e9] at hP
    refine lv_aload_n hx hb d_Model_stop_12 rfl (lv_at hl 0 rfl) ?_
    refine lv_iload_n hx hb d_Model_stop_13 rfl (lv_at hl 2 rfl) ?_
    obtain ⟨u14, e14, hM⟩ := gb_some hM
    refine g_putI C hP hS gl_DeskModel_14 rfl rfl gq_8_3 d_Model_stop_14 (fun H locs hP hS => ?_)
    rw [Option.some.inj e14] at hP
    exact t_Model_stop_b17 C hM hR ls H locs (lv_sub hl [] rfl) hP hS
theorem c_Model_stop {l : Launch} {cy : Nat → ClassId} {D : va_G} {ρ : Nat → Nat} {A : Nat → Prop} (hD : gD ρ A) {x1 : Int32} {x2 : Int32} {u : gSt} {z : (Int32 × gSt)} (hM : M_Model_stop x1 x2 u = some z) : gCtI l y_Model_stop prog_13_method_20_code 3 (some .boolean) 0 0 cy D ρ A [.ref (ρ 42), .int x1, .int x2] u z.1 z.2 :=
  g_met (by decide) hD (Nat.le_of_ble_eq_true rfl) (fun p e s m below meth c ls X hl hP => t_Model_stop X hM (fun pc ls H locs hz hd hP hS => g_zret X hP hS hz hd) ls _ [] hl hP va_S.rf)
end
section
variable {p : Program} {l : Launch} {e : Env} {R : Room} {s : State} {m : MethodId} {args : Array Value} {below : List Frame} {meth : Method} {c : Code} {Q : State → Prop} {H0 : Heap} {cells slots : Nat} {cy : Nat → ClassId} {D : va_G} {ρ : Nat → Nat} {A : Nat → Prop}
def y_Model_isLetter : MethodName := ⟨"TermDeskModel", "isLetter", "(I)Z"⟩
theorem gi_Model_isLetter : gMs y_Model_isLetter prog_13_method_21_code 1 (some .boolean) 1 := ⟨(gWs_at 1201 (by decide +kernel) (by decide +kernel)), (gWs_at 1200 (by decide +kernel) (by decide +kernel)), (gWs_at 125 (by decide +kernel) (by decide +kernel)), ⟨by decide +kernel, by decide +kernel, by decide +kernel⟩⟩
theorem gm_Model_153 : gMk "TermDeskModel" 153 y_Model_isLetter := Or.inl (gWs_at 1199 (by decide +kernel) (by decide +kernel))
theorem d_Model_isLetter_0 : decode prog_13_method_21_code 0 = .ok (.iload_n 0, 1) := by decide +kernel
theorem d_Model_isLetter_1 : decode prog_13_method_21_code 1 = .ok (.bipush 97, 2) := by decide +kernel
theorem d_Model_isLetter_3 : decode prog_13_method_21_code 3 = .ok (.if_icmp .lt 9, 3) := by decide +kernel
theorem d_Model_isLetter_6 : decode prog_13_method_21_code 6 = .ok (.iload_n 0, 1) := by decide +kernel
theorem d_Model_isLetter_7 : decode prog_13_method_21_code 7 = .ok (.bipush 122, 2) := by decide +kernel
theorem d_Model_isLetter_9 : decode prog_13_method_21_code 9 = .ok (.if_icmp .le 39, 3) := by decide +kernel
theorem d_Model_isLetter_12 : decode prog_13_method_21_code 12 = .ok (.iload_n 0, 1) := by decide +kernel
theorem d_Model_isLetter_13 : decode prog_13_method_21_code 13 = .ok (.bipush 65, 2) := by decide +kernel
theorem d_Model_isLetter_15 : decode prog_13_method_21_code 15 = .ok (.if_icmp .lt 9, 3) := by decide +kernel
theorem d_Model_isLetter_18 : decode prog_13_method_21_code 18 = .ok (.iload_n 0, 1) := by decide +kernel
theorem d_Model_isLetter_19 : decode prog_13_method_21_code 19 = .ok (.bipush 90, 2) := by decide +kernel
theorem d_Model_isLetter_21 : decode prog_13_method_21_code 21 = .ok (.if_icmp .le 27, 3) := by decide +kernel
theorem d_Model_isLetter_24 : decode prog_13_method_21_code 24 = .ok (.iload_n 0, 1) := by decide +kernel
theorem d_Model_isLetter_25 : decode prog_13_method_21_code 25 = .ok (.bipush 48, 2) := by decide +kernel
theorem d_Model_isLetter_27 : decode prog_13_method_21_code 27 = .ok (.if_icmp .lt 9, 3) := by decide +kernel
theorem d_Model_isLetter_30 : decode prog_13_method_21_code 30 = .ok (.iload_n 0, 1) := by decide +kernel
theorem d_Model_isLetter_31 : decode prog_13_method_21_code 31 = .ok (.bipush 57, 2) := by decide +kernel
theorem d_Model_isLetter_33 : decode prog_13_method_21_code 33 = .ok (.if_icmp .le 15, 3) := by decide +kernel
theorem d_Model_isLetter_36 : decode prog_13_method_21_code 36 = .ok (.iload_n 0, 1) := by decide +kernel
theorem d_Model_isLetter_37 : decode prog_13_method_21_code 37 = .ok (.bipush 95, 2) := by decide +kernel
theorem d_Model_isLetter_39 : decode prog_13_method_21_code 39 = .ok (.if_icmp .eq 9, 3) := by decide +kernel
theorem d_Model_isLetter_42 : decode prog_13_method_21_code 42 = .ok (.iload_n 0, 1) := by decide +kernel
theorem d_Model_isLetter_43 : decode prog_13_method_21_code 43 = .ok (.bipush 58, 2) := by decide +kernel
theorem d_Model_isLetter_45 : decode prog_13_method_21_code 45 = .ok (.if_icmp .ne 7, 3) := by decide +kernel
theorem d_Model_isLetter_48 : decode prog_13_method_21_code 48 = .ok (.iconst 1, 1) := by decide +kernel
theorem d_Model_isLetter_49 : decode prog_13_method_21_code 49 = .ok (.goto 4, 3) := by decide +kernel
theorem d_Model_isLetter_52 : decode prog_13_method_21_code 52 = .ok (.iconst 0, 1) := by decide +kernel
theorem d_Model_isLetter_53 : decode prog_13_method_21_code 53 = .ok (.ireturn, 1) := by decide +kernel
noncomputable def M_Model_isLetter_b53 (s0 : Int32) (u : gSt) : Option ((Int32 × gSt)) :=
  gc (gZ s0) <| some (s0, u)
set_option maxHeartbeats 4000000 in
set_option maxRecDepth 100000 in
theorem t_Model_isLetter_b53 (C : gX "TermDeskModel" prog_13_method_21_code 1 (some .boolean) 0 0 R cells slots cy D ρ A p s m args meth c) {s0 : Int32} {u : gSt} {z : (Int32 × gSt)} (hM : M_Model_isLetter_b53 s0 u = some z) (hR : gRtZ p l e R s m args below meth c Q H0 cells slots cy D ρ A prog_13_method_21_code z.1 z.2) : gAt p l e R s m args below meth c Q H0 cells slots cy D ρ A 1 53 [] [.int s0] u := by
  intro ls H locs hl hP hS
  have hx := C.1
  have hb := C.2.1
  unfold M_Model_isLetter_b53 at hM
  obtain ⟨hz53, hM⟩ := gc_some hM
  obtain rfl := Option.some.inj hM
  exact hR _ ls H locs hz53 d_Model_isLetter_53 hP hS
noncomputable def M_Model_isLetter_b48 (u : gSt) : Option ((Int32 × gSt)) :=
  M_Model_isLetter_b53 (1 : Int32) u
set_option maxHeartbeats 4000000 in
set_option maxRecDepth 100000 in
theorem t_Model_isLetter_b48 (C : gX "TermDeskModel" prog_13_method_21_code 1 (some .boolean) 0 0 R cells slots cy D ρ A p s m args meth c) {u : gSt} {z : (Int32 × gSt)} (hM : M_Model_isLetter_b48 u = some z) (hR : gRtZ p l e R s m args below meth c Q H0 cells slots cy D ρ A prog_13_method_21_code z.1 z.2) : gAt p l e R s m args below meth c Q H0 cells slots cy D ρ A 1 48 [] [] u := by
  intro ls H locs hl hP hS
  have hx := C.1
  have hb := C.2.1
  unfold M_Model_isLetter_b48 at hM
  refine lv_iconst (v := (1 : Int32)) hx hb d_Model_isLetter_48 (by decide) ?_
  refine lv_goto (tgt := 53) hx hb d_Model_isLetter_49 (by decide) ?_
  exact t_Model_isLetter_b53 C hM hR ls H locs (lv_sub hl [] rfl) hP hS
noncomputable def M_Model_isLetter_b36 (x0 : Int32) (u : gSt) : Option ((Int32 × gSt)) :=
  if x0 = (95 : Int32) then
    (M_Model_isLetter_b48 u)
  else
    (if x0 = (58 : Int32) then
      (M_Model_isLetter_b48 u)
    else
      (M_Model_isLetter_b53 (0 : Int32) u))
set_option maxHeartbeats 4000000 in
set_option maxRecDepth 100000 in
theorem t_Model_isLetter_b36 (C : gX "TermDeskModel" prog_13_method_21_code 1 (some .boolean) 0 0 R cells slots cy D ρ A p s m args meth c) {x0 : Int32} {u : gSt} {z : (Int32 × gSt)} (hM : M_Model_isLetter_b36 x0 u = some z) (hR : gRtZ p l e R s m args below meth c Q H0 cells slots cy D ρ A prog_13_method_21_code z.1 z.2) : gAt p l e R s m args below meth c Q H0 cells slots cy D ρ A 1 36 [(0, .int x0)] [] u := by
  intro ls H locs hl hP hS
  have hx := C.1
  have hb := C.2.1
  unfold M_Model_isLetter_b36 at hM
  refine lv_iload_n hx hb d_Model_isLetter_36 rfl (lv_at hl 0 rfl) ?_
  refine lv_bipush (v := (95 : Int32)) hx hb d_Model_isLetter_37 (by decide) ?_
  refine lv_icmp_eq (tgt := 48) hx hb d_Model_isLetter_39 (by decide) (fun hc39 => ?_) (fun hc39 => ?_)
  · replace hM := gi_t hc39 hM
    exact t_Model_isLetter_b48 C hM hR ls H locs (lv_sub hl [] rfl) hP hS
  · replace hM := gi_f hc39 hM
    refine lv_iload_n hx hb d_Model_isLetter_42 rfl (lv_at hl 0 rfl) ?_
    refine lv_bipush (v := (58 : Int32)) hx hb d_Model_isLetter_43 (by decide) ?_
    refine lv_icmp_ne (tgt := 52) hx hb d_Model_isLetter_45 (by decide) (fun hc45 => ?_) (fun hc45 => ?_)
    · replace hM := gi_f hc45 hM
      refine lv_iconst (v := (0 : Int32)) hx hb d_Model_isLetter_52 (by decide) ?_
      exact t_Model_isLetter_b53 C hM hR ls H locs (lv_sub hl [] rfl) hP hS
    · replace hM := gi_t hc45 hM
      exact t_Model_isLetter_b48 C hM hR ls H locs (lv_sub hl [] rfl) hP hS
noncomputable def M_Model_isLetter_b24 (x0 : Int32) (u : gSt) : Option ((Int32 × gSt)) :=
  if x0 < (48 : Int32) then
    (M_Model_isLetter_b36 x0 u)
  else
    (if x0 ≤ (57 : Int32) then
      (M_Model_isLetter_b48 u)
    else
      (M_Model_isLetter_b36 x0 u))
set_option maxHeartbeats 4000000 in
set_option maxRecDepth 100000 in
theorem t_Model_isLetter_b24 (C : gX "TermDeskModel" prog_13_method_21_code 1 (some .boolean) 0 0 R cells slots cy D ρ A p s m args meth c) {x0 : Int32} {u : gSt} {z : (Int32 × gSt)} (hM : M_Model_isLetter_b24 x0 u = some z) (hR : gRtZ p l e R s m args below meth c Q H0 cells slots cy D ρ A prog_13_method_21_code z.1 z.2) : gAt p l e R s m args below meth c Q H0 cells slots cy D ρ A 1 24 [(0, .int x0)] [] u := by
  intro ls H locs hl hP hS
  have hx := C.1
  have hb := C.2.1
  unfold M_Model_isLetter_b24 at hM
  refine lv_iload_n hx hb d_Model_isLetter_24 rfl (lv_at hl 0 rfl) ?_
  refine lv_bipush (v := (48 : Int32)) hx hb d_Model_isLetter_25 (by decide) ?_
  refine lv_icmp_lt (tgt := 36) hx hb d_Model_isLetter_27 (by decide) (fun hc27 => ?_) (fun hc27 => ?_)
  · replace hM := gi_t hc27 hM
    exact t_Model_isLetter_b36 C hM hR ls H locs (lv_sub hl [0] rfl) hP hS
  · replace hM := gi_f hc27 hM
    refine lv_iload_n hx hb d_Model_isLetter_30 rfl (lv_at hl 0 rfl) ?_
    refine lv_bipush (v := (57 : Int32)) hx hb d_Model_isLetter_31 (by decide) ?_
    refine lv_icmp_le (tgt := 48) hx hb d_Model_isLetter_33 (by decide) (fun hc33 => ?_) (fun hc33 => ?_)
    · replace hM := gi_t hc33 hM
      exact t_Model_isLetter_b48 C hM hR ls H locs (lv_sub hl [] rfl) hP hS
    · replace hM := gi_f hc33 hM
      exact t_Model_isLetter_b36 C hM hR ls H locs (lv_sub hl [0] rfl) hP hS
noncomputable def M_Model_isLetter_b12 (x0 : Int32) (u : gSt) : Option ((Int32 × gSt)) :=
  if x0 < (65 : Int32) then
    (M_Model_isLetter_b24 x0 u)
  else
    (if x0 ≤ (90 : Int32) then
      (M_Model_isLetter_b48 u)
    else
      (M_Model_isLetter_b24 x0 u))
set_option maxHeartbeats 4000000 in
set_option maxRecDepth 100000 in
theorem t_Model_isLetter_b12 (C : gX "TermDeskModel" prog_13_method_21_code 1 (some .boolean) 0 0 R cells slots cy D ρ A p s m args meth c) {x0 : Int32} {u : gSt} {z : (Int32 × gSt)} (hM : M_Model_isLetter_b12 x0 u = some z) (hR : gRtZ p l e R s m args below meth c Q H0 cells slots cy D ρ A prog_13_method_21_code z.1 z.2) : gAt p l e R s m args below meth c Q H0 cells slots cy D ρ A 1 12 [(0, .int x0)] [] u := by
  intro ls H locs hl hP hS
  have hx := C.1
  have hb := C.2.1
  unfold M_Model_isLetter_b12 at hM
  refine lv_iload_n hx hb d_Model_isLetter_12 rfl (lv_at hl 0 rfl) ?_
  refine lv_bipush (v := (65 : Int32)) hx hb d_Model_isLetter_13 (by decide) ?_
  refine lv_icmp_lt (tgt := 24) hx hb d_Model_isLetter_15 (by decide) (fun hc15 => ?_) (fun hc15 => ?_)
  · replace hM := gi_t hc15 hM
    exact t_Model_isLetter_b24 C hM hR ls H locs (lv_sub hl [0] rfl) hP hS
  · replace hM := gi_f hc15 hM
    refine lv_iload_n hx hb d_Model_isLetter_18 rfl (lv_at hl 0 rfl) ?_
    refine lv_bipush (v := (90 : Int32)) hx hb d_Model_isLetter_19 (by decide) ?_
    refine lv_icmp_le (tgt := 48) hx hb d_Model_isLetter_21 (by decide) (fun hc21 => ?_) (fun hc21 => ?_)
    · replace hM := gi_t hc21 hM
      exact t_Model_isLetter_b48 C hM hR ls H locs (lv_sub hl [] rfl) hP hS
    · replace hM := gi_f hc21 hM
      exact t_Model_isLetter_b24 C hM hR ls H locs (lv_sub hl [0] rfl) hP hS
noncomputable def M_Model_isLetter (x0 : Int32) (u : gSt) : Option ((Int32 × gSt)) :=
  if x0 < (97 : Int32) then
    (M_Model_isLetter_b12 x0 u)
  else
    (if x0 ≤ (122 : Int32) then
      (M_Model_isLetter_b48 u)
    else
      (M_Model_isLetter_b12 x0 u))
set_option maxHeartbeats 4000000 in
set_option maxRecDepth 100000 in
theorem t_Model_isLetter (C : gX "TermDeskModel" prog_13_method_21_code 1 (some .boolean) 0 0 R cells slots cy D ρ A p s m args meth c) {x0 : Int32} {u : gSt} {z : (Int32 × gSt)} (hM : M_Model_isLetter x0 u = some z) (hR : gRtZ p l e R s m args below meth c Q H0 cells slots cy D ρ A prog_13_method_21_code z.1 z.2) : gAt p l e R s m args below meth c Q H0 cells slots cy D ρ A 1 0 [(0, .int x0)] [] u := by
  intro ls H locs hl hP hS
  have hx := C.1
  have hb := C.2.1
  unfold M_Model_isLetter at hM
  refine lv_iload_n hx hb d_Model_isLetter_0 rfl (lv_at hl 0 rfl) ?_
  refine lv_bipush (v := (97 : Int32)) hx hb d_Model_isLetter_1 (by decide) ?_
  refine lv_icmp_lt (tgt := 12) hx hb d_Model_isLetter_3 (by decide) (fun hc3 => ?_) (fun hc3 => ?_)
  · replace hM := gi_t hc3 hM
    exact t_Model_isLetter_b12 C hM hR ls H locs (lv_sub hl [0] rfl) hP hS
  · replace hM := gi_f hc3 hM
    refine lv_iload_n hx hb d_Model_isLetter_6 rfl (lv_at hl 0 rfl) ?_
    refine lv_bipush (v := (122 : Int32)) hx hb d_Model_isLetter_7 (by decide) ?_
    refine lv_icmp_le (tgt := 48) hx hb d_Model_isLetter_9 (by decide) (fun hc9 => ?_) (fun hc9 => ?_)
    · replace hM := gi_t hc9 hM
      exact t_Model_isLetter_b48 C hM hR ls H locs (lv_sub hl [] rfl) hP hS
    · replace hM := gi_f hc9 hM
      exact t_Model_isLetter_b12 C hM hR ls H locs (lv_sub hl [0] rfl) hP hS
theorem c_Model_isLetter {l : Launch} {cy : Nat → ClassId} {D : va_G} {ρ : Nat → Nat} {A : Nat → Prop} (hD : gD ρ A) {x0 : Int32} {u : gSt} {z : (Int32 × gSt)} (hM : M_Model_isLetter x0 u = some z) : gCtI l y_Model_isLetter prog_13_method_21_code 1 (some .boolean) 0 0 cy D ρ A [.int x0] u z.1 z.2 :=
  g_met (by decide) hD (Nat.le_of_ble_eq_true rfl) (fun p e s m below meth c ls X hl hP => t_Model_isLetter X hM (fun pc ls H locs hz hd hP hS => g_zret X hP hS hz hd) ls _ [] hl hP va_S.rf)
end
section
variable {p : Program} {l : Launch} {e : Env} {R : Room} {s : State} {m : MethodId} {args : Array Value} {below : List Frame} {meth : Method} {c : Code} {Q : State → Prop} {H0 : Heap} {cells slots : Nat} {cy : Nat → ClassId} {D : va_G} {ρ : Nat → Nat} {A : Nat → Prop}
def y_Model_next : MethodName := ⟨"TermDeskModel", "next", "()Z"⟩
theorem gi_Model_next : gMi y_Model_next prog_13_method_22_code 1 (some .boolean) 0 8 := ⟨(gWs_at 1190 (by decide +kernel) (by decide +kernel)), (gWs_at 1189 (by decide +kernel) (by decide +kernel)), (gWs_at 71 (by decide +kernel) (by decide +kernel)), (gWs_at 125 (by decide +kernel) (by decide +kernel)), ⟨by decide +kernel, by decide +kernel, by decide +kernel⟩, _, _, rfl⟩
theorem gm_Model_167 : gMk "TermDeskModel" 167 y_Model_next := Or.inl (gWs_at 1187 (by decide +kernel) (by decide +kernel))
theorem d_Model_next_0 : decode prog_13_method_22_code 0 = .ok (.aload_n 0, 1) := by decide +kernel
theorem d_Model_next_1 : decode prog_13_method_22_code 1 = .ok (.getfield 140, 3) := by decide +kernel
theorem d_Model_next_4 : decode prog_13_method_22_code 4 = .ok (.aload_n 0, 1) := by decide +kernel
theorem d_Model_next_5 : decode prog_13_method_22_code 5 = .ok (.getfield 143, 3) := by decide +kernel
theorem d_Model_next_8 : decode prog_13_method_22_code 8 = .ok (.if_icmp .ne 13, 3) := by decide +kernel
theorem d_Model_next_11 : decode prog_13_method_22_code 11 = .ok (.aload_n 0, 1) := by decide +kernel
theorem d_Model_next_12 : decode prog_13_method_22_code 12 = .ok (.iconst 1, 1) := by decide +kernel
theorem d_Model_next_13 : decode prog_13_method_22_code 13 = .ok (.aload_n 0, 1) := by decide +kernel
theorem d_Model_next_14 : decode prog_13_method_22_code 14 = .ok (.getfield 143, 3) := by decide +kernel
theorem d_Model_next_17 : decode prog_13_method_22_code 17 = .ok (.invokevirtual 146, 3) := by decide +kernel
theorem d_Model_next_20 : decode prog_13_method_22_code 20 = .ok (.ireturn, 1) := by decide +kernel
theorem d_Model_next_21 : decode prog_13_method_22_code 21 = .ok (.aload_n 0, 1) := by decide +kernel
theorem d_Model_next_22 : decode prog_13_method_22_code 22 = .ok (.aload_n 0, 1) := by decide +kernel
theorem d_Model_next_23 : decode prog_13_method_22_code 23 = .ok (.getfield 140, 3) := by decide +kernel
theorem d_Model_next_26 : decode prog_13_method_22_code 26 = .ok (.iconst 1, 1) := by decide +kernel
theorem d_Model_next_27 : decode prog_13_method_22_code 27 = .ok (.iadd, 1) := by decide +kernel
theorem d_Model_next_28 : decode prog_13_method_22_code 28 = .ok (.putfield 150, 3) := by decide +kernel
theorem d_Model_next_31 : decode prog_13_method_22_code 31 = .ok (.aload_n 0, 1) := by decide +kernel
theorem d_Model_next_32 : decode prog_13_method_22_code 32 = .ok (.aload_n 0, 1) := by decide +kernel
theorem d_Model_next_33 : decode prog_13_method_22_code 33 = .ok (.getfield 150, 3) := by decide +kernel
theorem d_Model_next_36 : decode prog_13_method_22_code 36 = .ok (.putfield 140, 3) := by decide +kernel
theorem d_Model_next_39 : decode prog_13_method_22_code 39 = .ok (.aload_n 0, 1) := by decide +kernel
theorem d_Model_next_40 : decode prog_13_method_22_code 40 = .ok (.getfield 140, 3) := by decide +kernel
theorem d_Model_next_43 : decode prog_13_method_22_code 43 = .ok (.aload_n 0, 1) := by decide +kernel
theorem d_Model_next_44 : decode prog_13_method_22_code 44 = .ok (.getfield 143, 3) := by decide +kernel
theorem d_Model_next_47 : decode prog_13_method_22_code 47 = .ok (.if_icmp .ge 30, 3) := by decide +kernel
theorem d_Model_next_50 : decode prog_13_method_22_code 50 = .ok (.aload_n 0, 1) := by decide +kernel
theorem d_Model_next_51 : decode prog_13_method_22_code 51 = .ok (.getfield 8, 3) := by decide +kernel
theorem d_Model_next_54 : decode prog_13_method_22_code 54 = .ok (.aload_n 0, 1) := by decide +kernel
theorem d_Model_next_55 : decode prog_13_method_22_code 55 = .ok (.getfield 140, 3) := by decide +kernel
theorem d_Model_next_58 : decode prog_13_method_22_code 58 = .ok (.baload, 1) := by decide +kernel
theorem d_Model_next_59 : decode prog_13_method_22_code 59 = .ok (.bipush 32, 2) := by decide +kernel
theorem d_Model_next_61 : decode prog_13_method_22_code 61 = .ok (.if_icmp .eq 16, 3) := by decide +kernel
theorem d_Model_next_64 : decode prog_13_method_22_code 64 = .ok (.aload_n 0, 1) := by decide +kernel
theorem d_Model_next_65 : decode prog_13_method_22_code 65 = .ok (.dup, 1) := by decide +kernel
theorem d_Model_next_66 : decode prog_13_method_22_code 66 = .ok (.getfield 140, 3) := by decide +kernel
theorem d_Model_next_69 : decode prog_13_method_22_code 69 = .ok (.iconst 1, 1) := by decide +kernel
theorem d_Model_next_70 : decode prog_13_method_22_code 70 = .ok (.iadd, 1) := by decide +kernel
theorem d_Model_next_71 : decode prog_13_method_22_code 71 = .ok (.putfield 140, 3) := by decide +kernel
theorem d_Model_next_74 : decode prog_13_method_22_code 74 = .ok (.goto (-35), 3) := by decide +kernel
theorem d_Model_next_77 : decode prog_13_method_22_code 77 = .ok (.aload_n 0, 1) := by decide +kernel
theorem d_Model_next_78 : decode prog_13_method_22_code 78 = .ok (.getfield 140, 3) := by decide +kernel
theorem d_Model_next_81 : decode prog_13_method_22_code 81 = .ok (.aload_n 0, 1) := by decide +kernel
theorem d_Model_next_82 : decode prog_13_method_22_code 82 = .ok (.getfield 150, 3) := by decide +kernel
theorem d_Model_next_85 : decode prog_13_method_22_code 85 = .ok (.if_icmp .gt 15, 3) := by decide +kernel
theorem d_Model_next_88 : decode prog_13_method_22_code 88 = .ok (.aload_n 0, 1) := by decide +kernel
theorem d_Model_next_89 : decode prog_13_method_22_code 89 = .ok (.iconst 1, 1) := by decide +kernel
theorem d_Model_next_90 : decode prog_13_method_22_code 90 = .ok (.aload_n 0, 1) := by decide +kernel
theorem d_Model_next_91 : decode prog_13_method_22_code 91 = .ok (.getfield 150, 3) := by decide +kernel
theorem d_Model_next_94 : decode prog_13_method_22_code 94 = .ok (.invokevirtual 146, 3) := by decide +kernel
theorem d_Model_next_97 : decode prog_13_method_22_code 97 = .ok (.ifCond .eq 7, 3) := by decide +kernel
theorem d_Model_next_100 : decode prog_13_method_22_code 100 = .ok (.iconst 1, 1) := by decide +kernel
theorem d_Model_next_101 : decode prog_13_method_22_code 101 = .ok (.goto 4, 3) := by decide +kernel
theorem d_Model_next_104 : decode prog_13_method_22_code 104 = .ok (.iconst 0, 1) := by decide +kernel
theorem d_Model_next_105 : decode prog_13_method_22_code 105 = .ok (.ireturn, 1) := by decide +kernel
noncomputable def M_Model_next_b39 (u : gSt) : Option ((gSt) ⊕ ((gSt))) :=
  if (u.1 42 24) ≤ (u.1 42 23) then
    (some (.inr u))
  else
    (gc (gIn (u.1 42 23) (gLen 43)) <| if (u.2.2.1 43 (gIx (u.1 42 23))) = (32 : Int32) then
      (some (.inr u))
    else
      ((some (gsF u 42 23 ((u.1 42 23) + (1 : Int32)))).bind fun u71 =>
      some (.inl u71)))
set_option maxHeartbeats 4000000 in
set_option maxRecDepth 100000 in
theorem t_Model_next_b39 (C : gX "TermDeskModel" prog_13_method_22_code 1 (some .boolean) 1 22 R cells slots cy D ρ A p s m args meth c) {u : gSt} {z : (gSt) ⊕ ((gSt))} (hM : M_Model_next_b39 u = some z) (hN : ∀ u', z = .inl u' → gAt p l e R s m args below meth c Q H0 cells slots cy D ρ A 1 39 [(0, .ref (ρ 42))] [] (u')) (hE0 : ∀ u', z = .inr u' → gAt p l e R s m args below meth c Q H0 cells slots cy D ρ A 1 77 [(0, .ref (ρ 42))] [] (u')) : gAt p l e R s m args below meth c Q H0 cells slots cy D ρ A 1 39 [(0, .ref (ρ 42))] [] u := by
  intro ls H locs hl hP hS
  have hx := C.1
  have hb := C.2.1
  unfold M_Model_next_b39 at hM
  refine lv_aload_n hx hb d_Model_next_39 rfl (lv_at hl 0 rfl) ?_
  refine g_getI C hP gl_DeskModel_140 rfl rfl d_Model_next_40 ?_
  refine lv_aload_n hx hb d_Model_next_43 rfl (lv_at hl 0 rfl) ?_
  refine g_getI C hP gl_DeskModel_143 rfl rfl d_Model_next_44 ?_
  refine lv_icmp_ge (tgt := 77) hx hb d_Model_next_47 (by decide) (fun hc47 => ?_) (fun hc47 => ?_)
  · replace hM := gi_t hc47 hM
    exact hE0 _ (Option.some.inj hM).symm ls H locs (lv_sub hl [0] rfl) hP hS
  · replace hM := gi_f hc47 hM
    refine lv_aload_n hx hb d_Model_next_50 rfl (lv_at hl 0 rfl) ?_
    refine g_getR (b := 43) C hP gl_DeskModel_8 rfl rfl rfl d_Model_next_51 ?_
    refine lv_aload_n hx hb d_Model_next_54 rfl (lv_at hl 0 rfl) ?_
    refine g_getI C hP gl_DeskModel_140 rfl rfl d_Model_next_55 ?_
    obtain ⟨hi58, hM⟩ := gc_some hM
    refine g_bald C hP rfl hi58 d_Model_next_58 ?_
    refine lv_bipush (v := (32 : Int32)) hx hb d_Model_next_59 (by decide) ?_
    refine lv_icmp_eq (tgt := 77) hx hb d_Model_next_61 (by decide) (fun hc61 => ?_) (fun hc61 => ?_)
    · replace hM := gi_t hc61 hM
      exact hE0 _ (Option.some.inj hM).symm ls H locs (lv_sub hl [0] rfl) hP hS
    · replace hM := gi_f hc61 hM
      refine lv_aload_n hx hb d_Model_next_64 rfl (lv_at hl 0 rfl) ?_
      refine lv_dup hx hb d_Model_next_65 rfl ?_
      refine g_getI C hP gl_DeskModel_140 rfl rfl d_Model_next_66 ?_
      refine lv_iconst (v := (1 : Int32)) hx hb d_Model_next_69 (by decide) ?_
      refine lv_iadd hx hb d_Model_next_70 ?_
      obtain ⟨u71, e71, hM⟩ := gb_some hM
      refine g_putI C hP hS gl_DeskModel_140 rfl rfl gq_8_23 d_Model_next_71 (fun H locs hP hS => ?_)
      rw [Option.some.inj e71] at hP
      refine lv_goto (tgt := 39) hx hb d_Model_next_74 (by decide) ?_
      exact hN _ (Option.some.inj hM).symm ls H locs (lv_sub hl [0] rfl) hP hS
noncomputable def M_Model_next_L39 : (gSt) → Option ((gSt) ⊕ ((gSt))) := fun x => M_Model_next_b39 x
theorem t_Model_next_L39 (C : gX "TermDeskModel" prog_13_method_22_code 1 (some .boolean) 1 22 R cells slots cy D ρ A p s m args meth c) {u : gSt} {yy : (gSt)} (hL : gLp M_Model_next_L39 u = some yy) (hE0 : (∀ y', yy = y' → gAt p l e R s m args below meth c Q H0 cells slots cy D ρ A 1 77 [(0, .ref (ρ 42))] [] (y'))) : gAt p l e R s m args below meth c Q H0 cells slots cy D ρ A 1 39 [(0, .ref (ρ 42))] [] u :=
  g_loop (f := M_Model_next_L39) (P := fun x => gAt p l e R s m args below meth c Q H0 cells slots cy D ρ A 1 39 [(0, .ref (ρ 42))] [] x) (E := fun yy => (∀ y', yy = y' → gAt p l e R s m args below meth c Q H0 cells slots cy D ρ A 1 77 [(0, .ref (ρ 42))] [] (y'))) (fun x z hf hN hE => t_Model_next_b39 C hf (fun u' h => hN u' h) (fun u' h => (hE _ h) u' rfl)) hL hE0
noncomputable def M_Model_next_b105 (s0 : Int32) (u : gSt) : Option ((Int32 × gSt)) :=
  gc (gZ s0) <| some (s0, u)
set_option maxHeartbeats 4000000 in
set_option maxRecDepth 100000 in
theorem t_Model_next_b105 (C : gX "TermDeskModel" prog_13_method_22_code 1 (some .boolean) 1 22 R cells slots cy D ρ A p s m args meth c) {s0 : Int32} {u : gSt} {z : (Int32 × gSt)} (hM : M_Model_next_b105 s0 u = some z) (hR : gRtZ p l e R s m args below meth c Q H0 cells slots cy D ρ A prog_13_method_22_code z.1 z.2) : gAt p l e R s m args below meth c Q H0 cells slots cy D ρ A 1 105 [] [.int s0] u := by
  intro ls H locs hl hP hS
  have hx := C.1
  have hb := C.2.1
  unfold M_Model_next_b105 at hM
  obtain ⟨hz105, hM⟩ := gc_some hM
  obtain rfl := Option.some.inj hM
  exact hR _ ls H locs hz105 d_Model_next_105 hP hS
noncomputable def M_Model_next_b100 (u : gSt) : Option ((Int32 × gSt)) :=
  M_Model_next_b105 (1 : Int32) u
set_option maxHeartbeats 4000000 in
set_option maxRecDepth 100000 in
theorem t_Model_next_b100 (C : gX "TermDeskModel" prog_13_method_22_code 1 (some .boolean) 1 22 R cells slots cy D ρ A p s m args meth c) {u : gSt} {z : (Int32 × gSt)} (hM : M_Model_next_b100 u = some z) (hR : gRtZ p l e R s m args below meth c Q H0 cells slots cy D ρ A prog_13_method_22_code z.1 z.2) : gAt p l e R s m args below meth c Q H0 cells slots cy D ρ A 1 100 [] [] u := by
  intro ls H locs hl hP hS
  have hx := C.1
  have hb := C.2.1
  unfold M_Model_next_b100 at hM
  refine lv_iconst (v := (1 : Int32)) hx hb d_Model_next_100 (by decide) ?_
  refine lv_goto (tgt := 105) hx hb d_Model_next_101 (by decide) ?_
  exact t_Model_next_b105 C hM hR ls H locs (lv_sub hl [] rfl) hP hS
noncomputable def M_Model_next (u : gSt) : Option ((Int32 × gSt)) :=
  if (u.1 42 23) = (u.1 42 24) then
    ((M_Model_stop (1 : Int32) (u.1 42 24) u).bind fun q17 =>
    gc (gZ q17.1) <| some (q17.1, q17.2))
  else
    ((some (gsF u 42 22 ((u.1 42 23) + (1 : Int32)))).bind fun u28 =>
    (some (gsF u28 42 23 (u28.1 42 22))).bind fun u36 =>
    (gLp M_Model_next_L39 u36).bind fun y39 =>
    if (y39.1 42 22) < (y39.1 42 23) then
      (M_Model_next_b100 y39)
    else
      ((M_Model_stop (1 : Int32) (y39.1 42 22) y39).bind fun q94 =>
      if q94.1 = (0 : Int32) then
        (M_Model_next_b105 (0 : Int32) q94.2)
      else
        (M_Model_next_b100 q94.2)))
set_option maxHeartbeats 4000000 in
set_option maxRecDepth 100000 in
theorem t_Model_next (C : gX "TermDeskModel" prog_13_method_22_code 1 (some .boolean) 1 22 R cells slots cy D ρ A p s m args meth c) {u : gSt} {z : (Int32 × gSt)} (hM : M_Model_next u = some z) (hR : gRtZ p l e R s m args below meth c Q H0 cells slots cy D ρ A prog_13_method_22_code z.1 z.2) : gAt p l e R s m args below meth c Q H0 cells slots cy D ρ A 1 0 [(0, .ref (ρ 42))] [] u := by
  intro ls H locs hl hP hS
  have hx := C.1
  have hb := C.2.1
  unfold M_Model_next at hM
  refine lv_aload_n hx hb d_Model_next_0 rfl (lv_at hl 0 rfl) ?_
  refine g_getI C hP gl_DeskModel_140 rfl rfl d_Model_next_1 ?_
  refine lv_aload_n hx hb d_Model_next_4 rfl (lv_at hl 0 rfl) ?_
  refine g_getI C hP gl_DeskModel_143 rfl rfl d_Model_next_5 ?_
  refine lv_icmp_ne (tgt := 21) hx hb d_Model_next_8 (by decide) (fun hc8 => ?_) (fun hc8 => ?_)
  · replace hM := gi_f hc8 hM
    refine lv_aload_n hx hb d_Model_next_21 rfl (lv_at hl 0 rfl) ?_
    refine lv_aload_n hx hb d_Model_next_22 rfl (lv_at hl 0 rfl) ?_
    refine g_getI C hP gl_DeskModel_140 rfl rfl d_Model_next_23 ?_
    refine lv_iconst (v := (1 : Int32)) hx hb d_Model_next_26 (by decide) ?_
    refine lv_iadd hx hb d_Model_next_27 ?_
    obtain ⟨u28, e28, hM⟩ := gb_some hM
    refine g_putI C hP hS gl_DeskModel_150 rfl rfl gq_8_22 d_Model_next_28 (fun H locs hP hS => ?_)
    rw [Option.some.inj e28] at hP
    refine lv_aload_n hx hb d_Model_next_31 rfl (lv_at hl 0 rfl) ?_
    refine lv_aload_n hx hb d_Model_next_32 rfl (lv_at hl 0 rfl) ?_
    refine g_getI C hP gl_DeskModel_150 rfl rfl d_Model_next_33 ?_
    obtain ⟨u36, e36, hM⟩ := gb_some hM
    refine g_putI C hP hS gl_DeskModel_140 rfl rfl gq_8_23 d_Model_next_36 (fun H locs hP hS => ?_)
    rw [Option.some.inj e36] at hP
    obtain ⟨y39, hL39, hM⟩ := gb_some hM
    refine t_Model_next_L39 C hL39 (fun y39_0 hy => ?_) ls H locs (lv_sub hl [0] rfl) hP hS
    · subst hy
      intro ls H locs hl hP hS
      refine lv_aload_n hx hb d_Model_next_77 rfl (lv_at hl 0 rfl) ?_
      refine g_getI C hP gl_DeskModel_140 rfl rfl d_Model_next_78 ?_
      refine lv_aload_n hx hb d_Model_next_81 rfl (lv_at hl 0 rfl) ?_
      refine g_getI C hP gl_DeskModel_150 rfl rfl d_Model_next_82 ?_
      refine lv_icmp_gt (tgt := 100) hx hb d_Model_next_85 (by decide) (fun hc85 => ?_) (fun hc85 => ?_)
      · replace hM := gi_t hc85 hM
        exact t_Model_next_b100 C hM hR ls H locs (lv_sub hl [] rfl) hP hS
      · replace hM := gi_f hc85 hM
        refine lv_aload_n hx hb d_Model_next_88 rfl (lv_at hl 0 rfl) ?_
        refine lv_iconst (v := (1 : Int32)) hx hb d_Model_next_89 (by decide) ?_
        refine lv_aload_n hx hb d_Model_next_90 rfl (lv_at hl 0 rfl) ?_
        refine g_getI C hP gl_DeskModel_150 rfl rfl d_Model_next_91 ?_
        obtain ⟨q94, hq94, hM⟩ := gb_some hM
        refine g_backI (g_runV (As := [.int (1 : Int32), .int (y39.1 42 22)]) C hP (c_Model_stop C.2.2.2.2.2.2.2.2.1 hq94) gi_Model_stop gm_Model_146 rfl rfl (by decide) (by decide) hl.1 rfl (Nat.le_of_ble_eq_true rfl) d_Model_next_94) hS (fun H locs hP hS => ?_)
        refine lv_if_eq (tgt := 104) hx hb d_Model_next_97 (by decide) (fun hc97 => ?_) (fun hc97 => ?_)
        · replace hM := gi_t hc97 hM
          refine lv_iconst (v := (0 : Int32)) hx hb d_Model_next_104 (by decide) ?_
          exact t_Model_next_b105 C hM hR ls H locs (lv_sub hl [] rfl) hP hS
        · replace hM := gi_f hc97 hM
          exact t_Model_next_b100 C hM hR ls H locs (lv_sub hl [] rfl) hP hS
  · replace hM := gi_t hc8 hM
    refine lv_aload_n hx hb d_Model_next_11 rfl (lv_at hl 0 rfl) ?_
    refine lv_iconst (v := (1 : Int32)) hx hb d_Model_next_12 (by decide) ?_
    refine lv_aload_n hx hb d_Model_next_13 rfl (lv_at hl 0 rfl) ?_
    refine g_getI C hP gl_DeskModel_143 rfl rfl d_Model_next_14 ?_
    obtain ⟨q17, hq17, hM⟩ := gb_some hM
    refine g_backI (g_runV (As := [.int (1 : Int32), .int (u.1 42 24)]) C hP (c_Model_stop C.2.2.2.2.2.2.2.2.1 hq17) gi_Model_stop gm_Model_146 rfl rfl (by decide) (by decide) hl.1 rfl (Nat.le_of_ble_eq_true rfl) d_Model_next_17) hS (fun H locs hP hS => ?_)
    obtain ⟨hz20, hM⟩ := gc_some hM
    obtain rfl := Option.some.inj hM
    exact hR _ ls H locs hz20 d_Model_next_20 hP hS
theorem c_Model_next {l : Launch} {cy : Nat → ClassId} {D : va_G} {ρ : Nat → Nat} {A : Nat → Prop} (hD : gD ρ A) {u : gSt} {z : (Int32 × gSt)} (hM : M_Model_next u = some z) : gCtI l y_Model_next prog_13_method_22_code 1 (some .boolean) 1 22 cy D ρ A [.ref (ρ 42)] u z.1 z.2 :=
  g_met (by decide) hD (Nat.le_of_ble_eq_true rfl) (fun p e s m below meth c ls X hl hP => t_Model_next X hM (fun pc ls H locs hz hd hP hS => g_zret X hP hS hz hd) ls _ [] hl hP va_S.rf)
end
section
variable {p : Program} {l : Launch} {e : Env} {R : Room} {s : State} {m : MethodId} {args : Array Value} {below : List Frame} {meth : Method} {c : Code} {Q : State → Prop} {H0 : Heap} {cells slots : Nat} {cy : Nat → ClassId} {D : va_G} {ρ : Nat → Nat} {A : Nat → Prop}
def y_Model_isName : MethodName := ⟨"TermDeskModel", "isName", "()Z"⟩
theorem gi_Model_isName : gMi y_Model_isName prog_13_method_23_code 3 (some .boolean) 0 8 := ⟨(gWs_at 1198 (by decide +kernel) (by decide +kernel)), (gWs_at 1197 (by decide +kernel) (by decide +kernel)), (gWs_at 73 (by decide +kernel) (by decide +kernel)), (gWs_at 125 (by decide +kernel) (by decide +kernel)), ⟨by decide +kernel, by decide +kernel, by decide +kernel⟩, _, _, rfl⟩
theorem gm_Model_171 : gMk "TermDeskModel" 171 y_Model_isName := Or.inl (gWs_at 1195 (by decide +kernel) (by decide +kernel))
theorem d_Model_isName_0 : decode prog_13_method_23_code 0 = .ok (.aload_n 0, 1) := by decide +kernel
theorem d_Model_isName_1 : decode prog_13_method_23_code 1 = .ok (.getfield 140, 3) := by decide +kernel
theorem d_Model_isName_4 : decode prog_13_method_23_code 4 = .ok (.aload_n 0, 1) := by decide +kernel
theorem d_Model_isName_5 : decode prog_13_method_23_code 5 = .ok (.getfield 150, 3) := by decide +kernel
theorem d_Model_isName_8 : decode prog_13_method_23_code 8 = .ok (.isub, 1) := by decide +kernel
theorem d_Model_isName_9 : decode prog_13_method_23_code 9 = .ok (.bipush 12, 2) := by decide +kernel
theorem d_Model_isName_11 : decode prog_13_method_23_code 11 = .ok (.if_icmp .gt 7, 3) := by decide +kernel
theorem d_Model_isName_14 : decode prog_13_method_23_code 14 = .ok (.iconst 1, 1) := by decide +kernel
theorem d_Model_isName_15 : decode prog_13_method_23_code 15 = .ok (.goto 4, 3) := by decide +kernel
theorem d_Model_isName_18 : decode prog_13_method_23_code 18 = .ok (.iconst 0, 1) := by decide +kernel
theorem d_Model_isName_19 : decode prog_13_method_23_code 19 = .ok (.istore_n 1, 1) := by decide +kernel
theorem d_Model_isName_20 : decode prog_13_method_23_code 20 = .ok (.aload_n 0, 1) := by decide +kernel
theorem d_Model_isName_21 : decode prog_13_method_23_code 21 = .ok (.getfield 150, 3) := by decide +kernel
theorem d_Model_isName_24 : decode prog_13_method_23_code 24 = .ok (.istore_n 2, 1) := by decide +kernel
theorem d_Model_isName_25 : decode prog_13_method_23_code 25 = .ok (.iload_n 2, 1) := by decide +kernel
theorem d_Model_isName_26 : decode prog_13_method_23_code 26 = .ok (.aload_n 0, 1) := by decide +kernel
theorem d_Model_isName_27 : decode prog_13_method_23_code 27 = .ok (.getfield 140, 3) := by decide +kernel
theorem d_Model_isName_30 : decode prog_13_method_23_code 30 = .ok (.if_icmp .ge 23, 3) := by decide +kernel
theorem d_Model_isName_33 : decode prog_13_method_23_code 33 = .ok (.iload_n 1, 1) := by decide +kernel
theorem d_Model_isName_34 : decode prog_13_method_23_code 34 = .ok (.ifCond .eq 19, 3) := by decide +kernel
theorem d_Model_isName_37 : decode prog_13_method_23_code 37 = .ok (.aload_n 0, 1) := by decide +kernel
theorem d_Model_isName_38 : decode prog_13_method_23_code 38 = .ok (.getfield 8, 3) := by decide +kernel
theorem d_Model_isName_41 : decode prog_13_method_23_code 41 = .ok (.iload_n 2, 1) := by decide +kernel
theorem d_Model_isName_42 : decode prog_13_method_23_code 42 = .ok (.baload, 1) := by decide +kernel
theorem d_Model_isName_43 : decode prog_13_method_23_code 43 = .ok (.invokestatic 153, 3) := by decide +kernel
theorem d_Model_isName_46 : decode prog_13_method_23_code 46 = .ok (.istore_n 1, 1) := by decide +kernel
theorem d_Model_isName_47 : decode prog_13_method_23_code 47 = .ok (.iinc 2 1, 3) := by decide +kernel
theorem d_Model_isName_50 : decode prog_13_method_23_code 50 = .ok (.goto (-25), 3) := by decide +kernel
theorem d_Model_isName_53 : decode prog_13_method_23_code 53 = .ok (.iload_n 1, 1) := by decide +kernel
theorem d_Model_isName_54 : decode prog_13_method_23_code 54 = .ok (.ifCond .ne 15, 3) := by decide +kernel
theorem d_Model_isName_57 : decode prog_13_method_23_code 57 = .ok (.aload_n 0, 1) := by decide +kernel
theorem d_Model_isName_58 : decode prog_13_method_23_code 58 = .ok (.iconst 2, 1) := by decide +kernel
theorem d_Model_isName_59 : decode prog_13_method_23_code 59 = .ok (.aload_n 0, 1) := by decide +kernel
theorem d_Model_isName_60 : decode prog_13_method_23_code 60 = .ok (.getfield 150, 3) := by decide +kernel
theorem d_Model_isName_63 : decode prog_13_method_23_code 63 = .ok (.invokevirtual 146, 3) := by decide +kernel
theorem d_Model_isName_66 : decode prog_13_method_23_code 66 = .ok (.ifCond .eq 7, 3) := by decide +kernel
theorem d_Model_isName_69 : decode prog_13_method_23_code 69 = .ok (.iconst 1, 1) := by decide +kernel
theorem d_Model_isName_70 : decode prog_13_method_23_code 70 = .ok (.goto 4, 3) := by decide +kernel
theorem d_Model_isName_73 : decode prog_13_method_23_code 73 = .ok (.iconst 0, 1) := by decide +kernel
theorem d_Model_isName_74 : decode prog_13_method_23_code 74 = .ok (.ireturn, 1) := by decide +kernel
noncomputable def M_Model_isName_b25 (x1 : Int32) (x2 : Int32) (u : gSt) : Option ((Int32 × Int32 × gSt) ⊕ ((Int32 × gSt))) :=
  if (u.1 42 23) ≤ x2 then
    (some (.inr (x1, u)))
  else
    (if x1 = (0 : Int32) then
      (some (.inr (x1, u)))
    else
      (gc (gIn x2 (gLen 43)) <| (M_Model_isLetter (u.2.2.1 43 (gIx x2)) u).bind fun q43 =>
      some (.inl (q43.1, x2 + (1 : Int32), q43.2))))
set_option maxHeartbeats 4000000 in
set_option maxRecDepth 100000 in
theorem t_Model_isName_b25 (C : gX "TermDeskModel" prog_13_method_23_code 3 (some .boolean) 1 22 R cells slots cy D ρ A p s m args meth c) {x1 : Int32} {x2 : Int32} {u : gSt} {z : (Int32 × Int32 × gSt) ⊕ ((Int32 × gSt))} (hM : M_Model_isName_b25 x1 x2 u = some z) (hN : ∀ x1' x2' u', z = .inl (x1', x2', u') → gAt p l e R s m args below meth c Q H0 cells slots cy D ρ A 3 25 [(0, .ref (ρ 42)), (1, .int (x1')), (2, .int (x2'))] [] (u')) (hE0 : ∀ x1' u', z = .inr (x1', u') → gAt p l e R s m args below meth c Q H0 cells slots cy D ρ A 3 53 [(0, .ref (ρ 42)), (1, .int (x1'))] [] (u')) : gAt p l e R s m args below meth c Q H0 cells slots cy D ρ A 3 25 [(0, .ref (ρ 42)), (1, .int x1), (2, .int x2)] [] u := by
  intro ls H locs hl hP hS
  have hx := C.1
  have hb := C.2.1
  unfold M_Model_isName_b25 at hM
  refine lv_iload_n hx hb d_Model_isName_25 rfl (lv_at hl 2 rfl) ?_
  refine lv_aload_n hx hb d_Model_isName_26 rfl (lv_at hl 0 rfl) ?_
  refine g_getI C hP gl_DeskModel_140 rfl rfl d_Model_isName_27 ?_
  refine lv_icmp_ge (tgt := 53) hx hb d_Model_isName_30 (by decide) (fun hc30 => ?_) (fun hc30 => ?_)
  · replace hM := gi_t hc30 hM
    exact hE0 _ _ (Option.some.inj hM).symm ls H locs (lv_sub hl [0, 1] rfl) hP hS
  · replace hM := gi_f hc30 hM
    refine lv_iload_n hx hb d_Model_isName_33 rfl (lv_at hl 1 rfl) ?_
    refine lv_if_eq (tgt := 53) hx hb d_Model_isName_34 (by decide) (fun hc34 => ?_) (fun hc34 => ?_)
    · replace hM := gi_t hc34 hM
      exact hE0 _ _ (Option.some.inj hM).symm ls H locs (lv_sub hl [0, 1] rfl) hP hS
    · replace hM := gi_f hc34 hM
      refine lv_aload_n hx hb d_Model_isName_37 rfl (lv_at hl 0 rfl) ?_
      refine g_getR (b := 43) C hP gl_DeskModel_8 rfl rfl rfl d_Model_isName_38 ?_
      refine lv_iload_n hx hb d_Model_isName_41 rfl (lv_at hl 2 rfl) ?_
      obtain ⟨hi42, hM⟩ := gc_some hM
      refine g_bald C hP rfl hi42 d_Model_isName_42 ?_
      obtain ⟨q43, hq43, hM⟩ := gb_some hM
      refine g_backI (g_runS (As := [.int (u.2.2.1 43 (gIx x2))]) C hP (c_Model_isLetter C.2.2.2.2.2.2.2.2.1 hq43) gi_Model_isLetter gm_Model_153 rfl (by decide) (by decide) hl.1 rfl (Nat.le_of_ble_eq_true rfl) d_Model_isName_43) hS (fun H locs hP hS => ?_)
      refine lv_istore_n (lv' := [(1, .int q43.1), (0, .ref (ρ 42)), (2, .int x2)]) hx hb d_Model_isName_46 rfl hl (by decide) rfl (fun ls hl => ?_)
      refine lv_iinc (k := 2) (v := x2 + (1 : Int32)) (lv' := [(2, .int (x2 + (1 : Int32))), (1, .int q43.1), (0, .ref (ρ 42))]) hx hb d_Model_isName_47 hl rfl (congrArg (fun z => x2 + z) (by decide)) (by decide) rfl (fun ls hl => ?_)
      refine lv_goto (tgt := 25) hx hb d_Model_isName_50 (by decide) ?_
      exact hN _ _ _ (Option.some.inj hM).symm ls H locs (lv_sub hl [2, 1, 0] rfl) hP hS
noncomputable def M_Model_isName_L25 : (Int32 × Int32 × gSt) → Option ((Int32 × Int32 × gSt) ⊕ ((Int32 × gSt))) := fun x => M_Model_isName_b25 x.1 x.2.1 x.2.2
theorem t_Model_isName_L25 (C : gX "TermDeskModel" prog_13_method_23_code 3 (some .boolean) 1 22 R cells slots cy D ρ A p s m args meth c) {x1 : Int32} {x2 : Int32} {u : gSt} {yy : (Int32 × gSt)} (hL : gLp M_Model_isName_L25 (x1, x2, u) = some yy) (hE0 : (∀ y', yy = y' → gAt p l e R s m args below meth c Q H0 cells slots cy D ρ A 3 53 [(0, .ref (ρ 42)), (1, .int (y'.1))] [] (y'.2))) : gAt p l e R s m args below meth c Q H0 cells slots cy D ρ A 3 25 [(0, .ref (ρ 42)), (1, .int x1), (2, .int x2)] [] u :=
  g_loop (f := M_Model_isName_L25) (P := fun x => gAt p l e R s m args below meth c Q H0 cells slots cy D ρ A 3 25 [(0, .ref (ρ 42)), (1, .int x.1), (2, .int x.2.1)] [] x.2.2) (E := fun yy => (∀ y', yy = y' → gAt p l e R s m args below meth c Q H0 cells slots cy D ρ A 3 53 [(0, .ref (ρ 42)), (1, .int (y'.1))] [] (y'.2))) (fun x z hf hN hE => t_Model_isName_b25 C hf (fun x1' x2' u' h => hN (x1', x2', u') h) (fun x1' u' h => (hE _ h) (x1', u') rfl)) hL hE0
noncomputable def M_Model_isName_b74 (s0 : Int32) (u : gSt) : Option ((Int32 × gSt)) :=
  gc (gZ s0) <| some (s0, u)
set_option maxHeartbeats 4000000 in
set_option maxRecDepth 100000 in
theorem t_Model_isName_b74 (C : gX "TermDeskModel" prog_13_method_23_code 3 (some .boolean) 1 22 R cells slots cy D ρ A p s m args meth c) {s0 : Int32} {u : gSt} {z : (Int32 × gSt)} (hM : M_Model_isName_b74 s0 u = some z) (hR : gRtZ p l e R s m args below meth c Q H0 cells slots cy D ρ A prog_13_method_23_code z.1 z.2) : gAt p l e R s m args below meth c Q H0 cells slots cy D ρ A 3 74 [] [.int s0] u := by
  intro ls H locs hl hP hS
  have hx := C.1
  have hb := C.2.1
  unfold M_Model_isName_b74 at hM
  obtain ⟨hz74, hM⟩ := gc_some hM
  obtain rfl := Option.some.inj hM
  exact hR _ ls H locs hz74 d_Model_isName_74 hP hS
noncomputable def M_Model_isName_b69 (u : gSt) : Option ((Int32 × gSt)) :=
  M_Model_isName_b74 (1 : Int32) u
set_option maxHeartbeats 4000000 in
set_option maxRecDepth 100000 in
theorem t_Model_isName_b69 (C : gX "TermDeskModel" prog_13_method_23_code 3 (some .boolean) 1 22 R cells slots cy D ρ A p s m args meth c) {u : gSt} {z : (Int32 × gSt)} (hM : M_Model_isName_b69 u = some z) (hR : gRtZ p l e R s m args below meth c Q H0 cells slots cy D ρ A prog_13_method_23_code z.1 z.2) : gAt p l e R s m args below meth c Q H0 cells slots cy D ρ A 3 69 [] [] u := by
  intro ls H locs hl hP hS
  have hx := C.1
  have hb := C.2.1
  unfold M_Model_isName_b69 at hM
  refine lv_iconst (v := (1 : Int32)) hx hb d_Model_isName_69 (by decide) ?_
  refine lv_goto (tgt := 74) hx hb d_Model_isName_70 (by decide) ?_
  exact t_Model_isName_b74 C hM hR ls H locs (lv_sub hl [] rfl) hP hS
noncomputable def M_Model_isName_b19 (s0 : Int32) (u : gSt) : Option ((Int32 × gSt)) :=
  (gLp M_Model_isName_L25 (s0, u.1 42 22, u)).bind fun y25 =>
  if y25.1 = (0 : Int32) then
    ((M_Model_stop (2 : Int32) (y25.2.1 42 22) y25.2).bind fun q63 =>
    if q63.1 = (0 : Int32) then
      (M_Model_isName_b74 (0 : Int32) q63.2)
    else
      (M_Model_isName_b69 q63.2))
  else
    (M_Model_isName_b69 y25.2)
set_option maxHeartbeats 4000000 in
set_option maxRecDepth 100000 in
theorem t_Model_isName_b19 (C : gX "TermDeskModel" prog_13_method_23_code 3 (some .boolean) 1 22 R cells slots cy D ρ A p s m args meth c) {s0 : Int32} {u : gSt} {z : (Int32 × gSt)} (hM : M_Model_isName_b19 s0 u = some z) (hR : gRtZ p l e R s m args below meth c Q H0 cells slots cy D ρ A prog_13_method_23_code z.1 z.2) : gAt p l e R s m args below meth c Q H0 cells slots cy D ρ A 3 19 [(0, .ref (ρ 42))] [.int s0] u := by
  intro ls H locs hl hP hS
  have hx := C.1
  have hb := C.2.1
  unfold M_Model_isName_b19 at hM
  refine lv_istore_n (lv' := [(1, .int s0), (0, .ref (ρ 42))]) hx hb d_Model_isName_19 rfl hl (by decide) rfl (fun ls hl => ?_)
  refine lv_aload_n hx hb d_Model_isName_20 rfl (lv_at hl 1 rfl) ?_
  refine g_getI C hP gl_DeskModel_150 rfl rfl d_Model_isName_21 ?_
  refine lv_istore_n (lv' := [(2, .int (u.1 42 22)), (1, .int s0), (0, .ref (ρ 42))]) hx hb d_Model_isName_24 rfl hl (by decide) rfl (fun ls hl => ?_)
  obtain ⟨y25, hL25, hM⟩ := gb_some hM
  refine t_Model_isName_L25 C hL25 (fun y25_0 hy => ?_) ls H locs (lv_sub hl [2, 1, 0] rfl) hP hS
  · subst hy
    intro ls H locs hl hP hS
    refine lv_iload_n hx hb d_Model_isName_53 rfl (lv_at hl 1 rfl) ?_
    refine lv_if_ne (tgt := 69) hx hb d_Model_isName_54 (by decide) (fun hc54 => ?_) (fun hc54 => ?_)
    · replace hM := gi_f hc54 hM
      exact t_Model_isName_b69 C hM hR ls H locs (lv_sub hl [] rfl) hP hS
    · replace hM := gi_t hc54 hM
      refine lv_aload_n hx hb d_Model_isName_57 rfl (lv_at hl 0 rfl) ?_
      refine lv_iconst (v := (2 : Int32)) hx hb d_Model_isName_58 (by decide) ?_
      refine lv_aload_n hx hb d_Model_isName_59 rfl (lv_at hl 0 rfl) ?_
      refine g_getI C hP gl_DeskModel_150 rfl rfl d_Model_isName_60 ?_
      obtain ⟨q63, hq63, hM⟩ := gb_some hM
      refine g_backI (g_runV (As := [.int (2 : Int32), .int (y25.2.1 42 22)]) C hP (c_Model_stop C.2.2.2.2.2.2.2.2.1 hq63) gi_Model_stop gm_Model_146 rfl rfl (by decide) (by decide) hl.1 rfl (Nat.le_of_ble_eq_true rfl) d_Model_isName_63) hS (fun H locs hP hS => ?_)
      refine lv_if_eq (tgt := 73) hx hb d_Model_isName_66 (by decide) (fun hc66 => ?_) (fun hc66 => ?_)
      · replace hM := gi_t hc66 hM
        refine lv_iconst (v := (0 : Int32)) hx hb d_Model_isName_73 (by decide) ?_
        exact t_Model_isName_b74 C hM hR ls H locs (lv_sub hl [] rfl) hP hS
      · replace hM := gi_f hc66 hM
        exact t_Model_isName_b69 C hM hR ls H locs (lv_sub hl [] rfl) hP hS
noncomputable def M_Model_isName (u : gSt) : Option ((Int32 × gSt)) :=
  if (12 : Int32) < ((u.1 42 23) - (u.1 42 22)) then
    (M_Model_isName_b19 (0 : Int32) u)
  else
    (M_Model_isName_b19 (1 : Int32) u)
set_option maxHeartbeats 4000000 in
set_option maxRecDepth 100000 in
theorem t_Model_isName (C : gX "TermDeskModel" prog_13_method_23_code 3 (some .boolean) 1 22 R cells slots cy D ρ A p s m args meth c) {u : gSt} {z : (Int32 × gSt)} (hM : M_Model_isName u = some z) (hR : gRtZ p l e R s m args below meth c Q H0 cells slots cy D ρ A prog_13_method_23_code z.1 z.2) : gAt p l e R s m args below meth c Q H0 cells slots cy D ρ A 3 0 [(0, .ref (ρ 42))] [] u := by
  intro ls H locs hl hP hS
  have hx := C.1
  have hb := C.2.1
  unfold M_Model_isName at hM
  refine lv_aload_n hx hb d_Model_isName_0 rfl (lv_at hl 0 rfl) ?_
  refine g_getI C hP gl_DeskModel_140 rfl rfl d_Model_isName_1 ?_
  refine lv_aload_n hx hb d_Model_isName_4 rfl (lv_at hl 0 rfl) ?_
  refine g_getI C hP gl_DeskModel_150 rfl rfl d_Model_isName_5 ?_
  refine lv_isub hx hb d_Model_isName_8 ?_
  refine lv_bipush (v := (12 : Int32)) hx hb d_Model_isName_9 (by decide) ?_
  refine lv_icmp_gt (tgt := 18) hx hb d_Model_isName_11 (by decide) (fun hc11 => ?_) (fun hc11 => ?_)
  · replace hM := gi_t hc11 hM
    refine lv_iconst (v := (0 : Int32)) hx hb d_Model_isName_18 (by decide) ?_
    exact t_Model_isName_b19 C hM hR ls H locs (lv_sub hl [0] rfl) hP hS
  · replace hM := gi_f hc11 hM
    refine lv_iconst (v := (1 : Int32)) hx hb d_Model_isName_14 (by decide) ?_
    refine lv_goto (tgt := 19) hx hb d_Model_isName_15 (by decide) ?_
    exact t_Model_isName_b19 C hM hR ls H locs (lv_sub hl [0] rfl) hP hS
theorem c_Model_isName {l : Launch} {cy : Nat → ClassId} {D : va_G} {ρ : Nat → Nat} {A : Nat → Prop} (hD : gD ρ A) {u : gSt} {z : (Int32 × gSt)} (hM : M_Model_isName u = some z) : gCtI l y_Model_isName prog_13_method_23_code 3 (some .boolean) 1 22 cy D ρ A [.ref (ρ 42)] u z.1 z.2 :=
  g_met (by decide) hD (Nat.le_of_ble_eq_true rfl) (fun p e s m below meth c ls X hl hP => t_Model_isName X hM (fun pc ls H locs hz hd hP hS => g_zret X hP hS hz hd) ls _ [] hl hP va_S.rf)
end
section
variable {p : Program} {l : Launch} {e : Env} {R : Room} {s : State} {m : MethodId} {args : Array Value} {below : List Frame} {meth : Method} {c : Code} {Q : State → Prop} {H0 : Heap} {cells slots : Nat} {cy : Nat → ClassId} {D : va_G} {ρ : Nat → Nat} {A : Nat → Prop}
def y_Model_isWord : MethodName := ⟨"TermDeskModel", "isWord", "([BII)Z"⟩
theorem gi_Model_isWord : gMi y_Model_isWord prog_13_method_24_code 6 (some .boolean) 3 8 := ⟨(gWs_at 1209 (by decide +kernel) (by decide +kernel)), (gWs_at 1208 (by decide +kernel) (by decide +kernel)), (gWs_at 75 (by decide +kernel) (by decide +kernel)), (gWs_at 125 (by decide +kernel) (by decide +kernel)), ⟨by decide +kernel, by decide +kernel, by decide +kernel⟩, _, _, rfl⟩
theorem gm_Model_160 : gMk "TermDeskModel" 160 y_Model_isWord := Or.inl (gWs_at 1206 (by decide +kernel) (by decide +kernel))
theorem d_Model_isWord_0 : decode prog_13_method_24_code 0 = .ok (.iload_n 3, 1) := by decide +kernel
theorem d_Model_isWord_1 : decode prog_13_method_24_code 1 = .ok (.aload_n 0, 1) := by decide +kernel
theorem d_Model_isWord_2 : decode prog_13_method_24_code 2 = .ok (.getfield 140, 3) := by decide +kernel
theorem d_Model_isWord_5 : decode prog_13_method_24_code 5 = .ok (.aload_n 0, 1) := by decide +kernel
theorem d_Model_isWord_6 : decode prog_13_method_24_code 6 = .ok (.getfield 150, 3) := by decide +kernel
theorem d_Model_isWord_9 : decode prog_13_method_24_code 9 = .ok (.isub, 1) := by decide +kernel
theorem d_Model_isWord_10 : decode prog_13_method_24_code 10 = .ok (.if_icmp .ne 7, 3) := by decide +kernel
theorem d_Model_isWord_13 : decode prog_13_method_24_code 13 = .ok (.iconst 1, 1) := by decide +kernel
theorem d_Model_isWord_14 : decode prog_13_method_24_code 14 = .ok (.goto 4, 3) := by decide +kernel
theorem d_Model_isWord_17 : decode prog_13_method_24_code 17 = .ok (.iconst 0, 1) := by decide +kernel
theorem d_Model_isWord_18 : decode prog_13_method_24_code 18 = .ok (.istore 4, 2) := by decide +kernel
theorem d_Model_isWord_20 : decode prog_13_method_24_code 20 = .ok (.iconst 0, 1) := by decide +kernel
theorem d_Model_isWord_21 : decode prog_13_method_24_code 21 = .ok (.istore 5, 2) := by decide +kernel
theorem d_Model_isWord_23 : decode prog_13_method_24_code 23 = .ok (.iload 5, 2) := by decide +kernel
theorem d_Model_isWord_25 : decode prog_13_method_24_code 25 = .ok (.iload_n 3, 1) := by decide +kernel
theorem d_Model_isWord_26 : decode prog_13_method_24_code 26 = .ok (.if_icmp .ge 42, 3) := by decide +kernel
theorem d_Model_isWord_29 : decode prog_13_method_24_code 29 = .ok (.iload 4, 2) := by decide +kernel
theorem d_Model_isWord_31 : decode prog_13_method_24_code 31 = .ok (.ifCond .eq 37, 3) := by decide +kernel
theorem d_Model_isWord_34 : decode prog_13_method_24_code 34 = .ok (.aload_n 1, 1) := by decide +kernel
theorem d_Model_isWord_35 : decode prog_13_method_24_code 35 = .ok (.iload_n 2, 1) := by decide +kernel
theorem d_Model_isWord_36 : decode prog_13_method_24_code 36 = .ok (.iload 5, 2) := by decide +kernel
theorem d_Model_isWord_38 : decode prog_13_method_24_code 38 = .ok (.iadd, 1) := by decide +kernel
theorem d_Model_isWord_39 : decode prog_13_method_24_code 39 = .ok (.baload, 1) := by decide +kernel
theorem d_Model_isWord_40 : decode prog_13_method_24_code 40 = .ok (.aload_n 0, 1) := by decide +kernel
theorem d_Model_isWord_41 : decode prog_13_method_24_code 41 = .ok (.getfield 8, 3) := by decide +kernel
theorem d_Model_isWord_44 : decode prog_13_method_24_code 44 = .ok (.aload_n 0, 1) := by decide +kernel
theorem d_Model_isWord_45 : decode prog_13_method_24_code 45 = .ok (.getfield 150, 3) := by decide +kernel
theorem d_Model_isWord_48 : decode prog_13_method_24_code 48 = .ok (.iload 5, 2) := by decide +kernel
theorem d_Model_isWord_50 : decode prog_13_method_24_code 50 = .ok (.iadd, 1) := by decide +kernel
theorem d_Model_isWord_51 : decode prog_13_method_24_code 51 = .ok (.baload, 1) := by decide +kernel
theorem d_Model_isWord_52 : decode prog_13_method_24_code 52 = .ok (.if_icmp .ne 7, 3) := by decide +kernel
theorem d_Model_isWord_55 : decode prog_13_method_24_code 55 = .ok (.iconst 1, 1) := by decide +kernel
theorem d_Model_isWord_56 : decode prog_13_method_24_code 56 = .ok (.goto 4, 3) := by decide +kernel
theorem d_Model_isWord_59 : decode prog_13_method_24_code 59 = .ok (.iconst 0, 1) := by decide +kernel
theorem d_Model_isWord_60 : decode prog_13_method_24_code 60 = .ok (.istore 4, 2) := by decide +kernel
theorem d_Model_isWord_62 : decode prog_13_method_24_code 62 = .ok (.iinc 5 1, 3) := by decide +kernel
theorem d_Model_isWord_65 : decode prog_13_method_24_code 65 = .ok (.goto (-42), 3) := by decide +kernel
theorem d_Model_isWord_68 : decode prog_13_method_24_code 68 = .ok (.iload 4, 2) := by decide +kernel
theorem d_Model_isWord_70 : decode prog_13_method_24_code 70 = .ok (.ireturn, 1) := by decide +kernel
noncomputable def M_Model_isWord_b60 (a1 : Nat) (x2 : Int32) (x3 : Int32) (x5 : Int32) (s0 : Int32) (u : gSt) : Option ((Nat × Int32 × Int32 × Int32 × Int32 × gSt) ⊕ ((Int32 × gSt))) :=
  some (.inl (a1, x2, x3, s0, x5 + (1 : Int32), u))
set_option maxHeartbeats 4000000 in
set_option maxRecDepth 100000 in
theorem t_Model_isWord_b60 (C : gX "TermDeskModel" prog_13_method_24_code 6 (some .boolean) 0 0 R cells slots cy D ρ A p s m args meth c) {a1 : Nat} {x2 : Int32} {x3 : Int32} {x5 : Int32} {s0 : Int32} {u : gSt} {z : (Nat × Int32 × Int32 × Int32 × Int32 × gSt) ⊕ ((Int32 × gSt))} (hM : M_Model_isWord_b60 a1 x2 x3 x5 s0 u = some z) (hN : ∀ a1' x2' x3' x4' x5' u', z = .inl (a1', x2', x3', x4', x5', u') → gAt p l e R s m args below meth c Q H0 cells slots cy D ρ A 6 23 [(0, .ref (ρ 42)), (1, .ref (ρ (a1'))), (2, .int (x2')), (3, .int (x3')), (4, .int (x4')), (5, .int (x5'))] [] (u')) (hE0 : ∀ x4' u', z = .inr (x4', u') → gAt p l e R s m args below meth c Q H0 cells slots cy D ρ A 6 68 [(4, .int (x4'))] [] (u')) : gAt p l e R s m args below meth c Q H0 cells slots cy D ρ A 6 60 [(0, .ref (ρ 42)), (1, .ref (ρ a1)), (2, .int x2), (3, .int x3), (5, .int x5)] [.int s0] u := by
  intro ls H locs hl hP hS
  have hx := C.1
  have hb := C.2.1
  unfold M_Model_isWord_b60 at hM
  refine lv_istore (lv' := [(4, .int s0), (0, .ref (ρ 42)), (1, .ref (ρ a1)), (2, .int x2), (3, .int x3), (5, .int x5)]) hx hb d_Model_isWord_60 hl (by decide) rfl (fun ls hl => ?_)
  refine lv_iinc (k := 5) (v := x5 + (1 : Int32)) (lv' := [(5, .int (x5 + (1 : Int32))), (4, .int s0), (0, .ref (ρ 42)), (1, .ref (ρ a1)), (2, .int x2), (3, .int x3)]) hx hb d_Model_isWord_62 hl rfl (congrArg (fun z => x5 + z) (by decide)) (by decide) rfl (fun ls hl => ?_)
  refine lv_goto (tgt := 23) hx hb d_Model_isWord_65 (by decide) ?_
  exact hN _ _ _ _ _ _ (Option.some.inj hM).symm ls H locs (lv_sub hl [2, 3, 4, 5, 1, 0] rfl) hP hS
noncomputable def M_Model_isWord_b23 (a1 : Nat) (x2 : Int32) (x3 : Int32) (x4 : Int32) (x5 : Int32) (u : gSt) : Option ((Nat × Int32 × Int32 × Int32 × Int32 × gSt) ⊕ ((Int32 × gSt))) :=
  if x3 ≤ x5 then
    (some (.inr (x4, u)))
  else
    (if x4 = (0 : Int32) then
      (some (.inr (x4, u)))
    else
      (gc (gK a1 == 20) <| gc (gIn (x2 + x5) (gLen a1)) <| gc (gIn ((u.1 42 22) + x5) (gLen 43)) <| if (u.2.2.1 a1 (gIx (x2 + x5))) = (u.2.2.1 43 (gIx ((u.1 42 22) + x5))) then
        (M_Model_isWord_b60 a1 x2 x3 x5 (1 : Int32) u)
      else
        (M_Model_isWord_b60 a1 x2 x3 x5 (0 : Int32) u)))
set_option maxHeartbeats 4000000 in
set_option maxRecDepth 100000 in
theorem t_Model_isWord_b23 (C : gX "TermDeskModel" prog_13_method_24_code 6 (some .boolean) 0 0 R cells slots cy D ρ A p s m args meth c) {a1 : Nat} {x2 : Int32} {x3 : Int32} {x4 : Int32} {x5 : Int32} {u : gSt} {z : (Nat × Int32 × Int32 × Int32 × Int32 × gSt) ⊕ ((Int32 × gSt))} (hM : M_Model_isWord_b23 a1 x2 x3 x4 x5 u = some z) (hN : ∀ a1' x2' x3' x4' x5' u', z = .inl (a1', x2', x3', x4', x5', u') → gAt p l e R s m args below meth c Q H0 cells slots cy D ρ A 6 23 [(0, .ref (ρ 42)), (1, .ref (ρ (a1'))), (2, .int (x2')), (3, .int (x3')), (4, .int (x4')), (5, .int (x5'))] [] (u')) (hE0 : ∀ x4' u', z = .inr (x4', u') → gAt p l e R s m args below meth c Q H0 cells slots cy D ρ A 6 68 [(4, .int (x4'))] [] (u')) : gAt p l e R s m args below meth c Q H0 cells slots cy D ρ A 6 23 [(0, .ref (ρ 42)), (1, .ref (ρ a1)), (2, .int x2), (3, .int x3), (4, .int x4), (5, .int x5)] [] u := by
  intro ls H locs hl hP hS
  have hx := C.1
  have hb := C.2.1
  unfold M_Model_isWord_b23 at hM
  refine lv_iload hx hb d_Model_isWord_23 (lv_at hl 5 rfl) ?_
  refine lv_iload_n hx hb d_Model_isWord_25 rfl (lv_at hl 3 rfl) ?_
  refine lv_icmp_ge (tgt := 68) hx hb d_Model_isWord_26 (by decide) (fun hc26 => ?_) (fun hc26 => ?_)
  · replace hM := gi_t hc26 hM
    exact hE0 _ _ (Option.some.inj hM).symm ls H locs (lv_sub hl [4] rfl) hP hS
  · replace hM := gi_f hc26 hM
    refine lv_iload hx hb d_Model_isWord_29 (lv_at hl 4 rfl) ?_
    refine lv_if_eq (tgt := 68) hx hb d_Model_isWord_31 (by decide) (fun hc31 => ?_) (fun hc31 => ?_)
    · replace hM := gi_t hc31 hM
      exact hE0 _ _ (Option.some.inj hM).symm ls H locs (lv_sub hl [4] rfl) hP hS
    · replace hM := gi_f hc31 hM
      refine lv_aload_n hx hb d_Model_isWord_34 rfl (lv_at hl 1 rfl) ?_
      refine lv_iload_n hx hb d_Model_isWord_35 rfl (lv_at hl 2 rfl) ?_
      refine lv_iload hx hb d_Model_isWord_36 (lv_at hl 5 rfl) ?_
      refine lv_iadd hx hb d_Model_isWord_38 ?_
      obtain ⟨h39, hM⟩ := gc_some hM
      obtain ⟨hi39, hM⟩ := gc_some hM
      refine g_bald C hP (eq_of_beq h39) hi39 d_Model_isWord_39 ?_
      refine lv_aload_n hx hb d_Model_isWord_40 rfl (lv_at hl 0 rfl) ?_
      refine g_getR (b := 43) C hP gl_DeskModel_8 rfl rfl rfl d_Model_isWord_41 ?_
      refine lv_aload_n hx hb d_Model_isWord_44 rfl (lv_at hl 0 rfl) ?_
      refine g_getI C hP gl_DeskModel_150 rfl rfl d_Model_isWord_45 ?_
      refine lv_iload hx hb d_Model_isWord_48 (lv_at hl 5 rfl) ?_
      refine lv_iadd hx hb d_Model_isWord_50 ?_
      obtain ⟨hi51, hM⟩ := gc_some hM
      refine g_bald C hP rfl hi51 d_Model_isWord_51 ?_
      refine lv_icmp_ne (tgt := 59) hx hb d_Model_isWord_52 (by decide) (fun hc52 => ?_) (fun hc52 => ?_)
      · replace hM := gi_f hc52 hM
        refine lv_iconst (v := (0 : Int32)) hx hb d_Model_isWord_59 (by decide) ?_
        exact t_Model_isWord_b60 C hM hN hE0 ls H locs (lv_sub hl [0, 1, 2, 3, 5] rfl) hP hS
      · replace hM := gi_t hc52 hM
        refine lv_iconst (v := (1 : Int32)) hx hb d_Model_isWord_55 (by decide) ?_
        refine lv_goto (tgt := 60) hx hb d_Model_isWord_56 (by decide) ?_
        exact t_Model_isWord_b60 C hM hN hE0 ls H locs (lv_sub hl [0, 1, 2, 3, 5] rfl) hP hS
noncomputable def M_Model_isWord_L23 : (Nat × Int32 × Int32 × Int32 × Int32 × gSt) → Option ((Nat × Int32 × Int32 × Int32 × Int32 × gSt) ⊕ ((Int32 × gSt))) := fun x => M_Model_isWord_b23 x.1 x.2.1 x.2.2.1 x.2.2.2.1 x.2.2.2.2.1 x.2.2.2.2.2
theorem t_Model_isWord_L23 (C : gX "TermDeskModel" prog_13_method_24_code 6 (some .boolean) 0 0 R cells slots cy D ρ A p s m args meth c) {a1 : Nat} {x2 : Int32} {x3 : Int32} {x4 : Int32} {x5 : Int32} {u : gSt} {yy : (Int32 × gSt)} (hL : gLp M_Model_isWord_L23 (a1, x2, x3, x4, x5, u) = some yy) (hE0 : (∀ y', yy = y' → gAt p l e R s m args below meth c Q H0 cells slots cy D ρ A 6 68 [(4, .int (y'.1))] [] (y'.2))) : gAt p l e R s m args below meth c Q H0 cells slots cy D ρ A 6 23 [(0, .ref (ρ 42)), (1, .ref (ρ a1)), (2, .int x2), (3, .int x3), (4, .int x4), (5, .int x5)] [] u :=
  g_loop (f := M_Model_isWord_L23) (P := fun x => gAt p l e R s m args below meth c Q H0 cells slots cy D ρ A 6 23 [(0, .ref (ρ 42)), (1, .ref (ρ x.1)), (2, .int x.2.1), (3, .int x.2.2.1), (4, .int x.2.2.2.1), (5, .int x.2.2.2.2.1)] [] x.2.2.2.2.2) (E := fun yy => (∀ y', yy = y' → gAt p l e R s m args below meth c Q H0 cells slots cy D ρ A 6 68 [(4, .int (y'.1))] [] (y'.2))) (fun x z hf hN hE => t_Model_isWord_b23 C hf (fun a1' x2' x3' x4' x5' u' h => hN (a1', x2', x3', x4', x5', u') h) (fun x4' u' h => (hE _ h) (x4', u') rfl)) hL hE0
noncomputable def M_Model_isWord_b18 (a1 : Nat) (x2 : Int32) (x3 : Int32) (s0 : Int32) (u : gSt) : Option ((Int32 × gSt)) :=
  (gLp M_Model_isWord_L23 (a1, x2, x3, s0, (0 : Int32), u)).bind fun y23 =>
  gc (gZ y23.1) <| some (y23.1, y23.2)
set_option maxHeartbeats 4000000 in
set_option maxRecDepth 100000 in
theorem t_Model_isWord_b18 (C : gX "TermDeskModel" prog_13_method_24_code 6 (some .boolean) 0 0 R cells slots cy D ρ A p s m args meth c) {a1 : Nat} {x2 : Int32} {x3 : Int32} {s0 : Int32} {u : gSt} {z : (Int32 × gSt)} (hM : M_Model_isWord_b18 a1 x2 x3 s0 u = some z) (hR : gRtZ p l e R s m args below meth c Q H0 cells slots cy D ρ A prog_13_method_24_code z.1 z.2) : gAt p l e R s m args below meth c Q H0 cells slots cy D ρ A 6 18 [(0, .ref (ρ 42)), (1, .ref (ρ a1)), (2, .int x2), (3, .int x3)] [.int s0] u := by
  intro ls H locs hl hP hS
  have hx := C.1
  have hb := C.2.1
  unfold M_Model_isWord_b18 at hM
  refine lv_istore (lv' := [(4, .int s0), (0, .ref (ρ 42)), (1, .ref (ρ a1)), (2, .int x2), (3, .int x3)]) hx hb d_Model_isWord_18 hl (by decide) rfl (fun ls hl => ?_)
  refine lv_iconst (v := (0 : Int32)) hx hb d_Model_isWord_20 (by decide) ?_
  refine lv_istore (lv' := [(5, .int (0 : Int32)), (4, .int s0), (0, .ref (ρ 42)), (1, .ref (ρ a1)), (2, .int x2), (3, .int x3)]) hx hb d_Model_isWord_21 hl (by decide) rfl (fun ls hl => ?_)
  obtain ⟨y23, hL23, hM⟩ := gb_some hM
  refine t_Model_isWord_L23 C hL23 (fun y23_0 hy => ?_) ls H locs (lv_sub hl [2, 3, 4, 5, 1, 0] rfl) hP hS
  · subst hy
    intro ls H locs hl hP hS
    refine lv_iload hx hb d_Model_isWord_68 (lv_at hl 0 rfl) ?_
    obtain ⟨hz70, hM⟩ := gc_some hM
    obtain rfl := Option.some.inj hM
    exact hR _ ls H locs hz70 d_Model_isWord_70 hP hS
noncomputable def M_Model_isWord (a1 : Nat) (x2 : Int32) (x3 : Int32) (u : gSt) : Option ((Int32 × gSt)) :=
  if x3 = ((u.1 42 23) - (u.1 42 22)) then
    (M_Model_isWord_b18 a1 x2 x3 (1 : Int32) u)
  else
    (M_Model_isWord_b18 a1 x2 x3 (0 : Int32) u)
set_option maxHeartbeats 4000000 in
set_option maxRecDepth 100000 in
theorem t_Model_isWord (C : gX "TermDeskModel" prog_13_method_24_code 6 (some .boolean) 0 0 R cells slots cy D ρ A p s m args meth c) {a1 : Nat} {x2 : Int32} {x3 : Int32} {u : gSt} {z : (Int32 × gSt)} (hM : M_Model_isWord a1 x2 x3 u = some z) (hR : gRtZ p l e R s m args below meth c Q H0 cells slots cy D ρ A prog_13_method_24_code z.1 z.2) : gAt p l e R s m args below meth c Q H0 cells slots cy D ρ A 6 0 [(0, .ref (ρ 42)), (1, .ref (ρ a1)), (2, .int x2), (3, .int x3)] [] u := by
  intro ls H locs hl hP hS
  have hx := C.1
  have hb := C.2.1
  unfold M_Model_isWord at hM
  refine lv_iload_n hx hb d_Model_isWord_0 rfl (lv_at hl 3 rfl) ?_
  refine lv_aload_n hx hb d_Model_isWord_1 rfl (lv_at hl 0 rfl) ?_
  refine g_getI C hP gl_DeskModel_140 rfl rfl d_Model_isWord_2 ?_
  refine lv_aload_n hx hb d_Model_isWord_5 rfl (lv_at hl 0 rfl) ?_
  refine g_getI C hP gl_DeskModel_150 rfl rfl d_Model_isWord_6 ?_
  refine lv_isub hx hb d_Model_isWord_9 ?_
  refine lv_icmp_ne (tgt := 17) hx hb d_Model_isWord_10 (by decide) (fun hc10 => ?_) (fun hc10 => ?_)
  · replace hM := gi_f hc10 hM
    refine lv_iconst (v := (0 : Int32)) hx hb d_Model_isWord_17 (by decide) ?_
    exact t_Model_isWord_b18 C hM hR ls H locs (lv_sub hl [0, 1, 2, 3] rfl) hP hS
  · replace hM := gi_t hc10 hM
    refine lv_iconst (v := (1 : Int32)) hx hb d_Model_isWord_13 (by decide) ?_
    refine lv_goto (tgt := 18) hx hb d_Model_isWord_14 (by decide) ?_
    exact t_Model_isWord_b18 C hM hR ls H locs (lv_sub hl [0, 1, 2, 3] rfl) hP hS
theorem c_Model_isWord {l : Launch} {cy : Nat → ClassId} {D : va_G} {ρ : Nat → Nat} {A : Nat → Prop} (hD : gD ρ A) {a1 : Nat} {x2 : Int32} {x3 : Int32} {u : gSt} {z : (Int32 × gSt)} (hM : M_Model_isWord a1 x2 x3 u = some z) : gCtI l y_Model_isWord prog_13_method_24_code 6 (some .boolean) 0 0 cy D ρ A [.ref (ρ 42), .ref (ρ a1), .int x2, .int x3] u z.1 z.2 :=
  g_met (by decide) hD (Nat.le_of_ble_eq_true rfl) (fun p e s m below meth c ls X hl hP => t_Model_isWord X hM (fun pc ls H locs hz hd hP hS => g_zret X hP hS hz hd) ls _ [] hl hP va_S.rf)
end
section
variable {p : Program} {l : Launch} {e : Env} {R : Room} {s : State} {m : MethodId} {args : Array Value} {below : List Frame} {meth : Method} {c : Code} {Q : State → Prop} {H0 : Heap} {cells slots : Nat} {cy : Nat → ClassId} {D : va_G} {ρ : Nat → Nat} {A : Nat → Prop}
def y_Model_termOf : MethodName := ⟨"TermDeskModel", "termOf", "()I"⟩
theorem gi_Model_termOf : gMi y_Model_termOf prog_13_method_25_code 2 (some .int) 0 8 := ⟨(gWs_at 1205 (by decide +kernel) (by decide +kernel)), (gWs_at 1204 (by decide +kernel) (by decide +kernel)), (gWs_at 74 (by decide +kernel) (by decide +kernel)), (gWs_at 125 (by decide +kernel) (by decide +kernel)), ⟨by decide +kernel, by decide +kernel, by decide +kernel⟩, _, _, rfl⟩
theorem gm_Model_174 : gMk "TermDeskModel" 174 y_Model_termOf := Or.inl (gWs_at 1202 (by decide +kernel) (by decide +kernel))
theorem d_Model_termOf_0 : decode prog_13_method_25_code 0 = .ok (.iconst 0, 1) := by decide +kernel
theorem d_Model_termOf_1 : decode prog_13_method_25_code 1 = .ok (.istore_n 1, 1) := by decide +kernel
theorem d_Model_termOf_2 : decode prog_13_method_25_code 2 = .ok (.iload_n 1, 1) := by decide +kernel
theorem d_Model_termOf_3 : decode prog_13_method_25_code 3 = .ok (.aload_n 0, 1) := by decide +kernel
theorem d_Model_termOf_4 : decode prog_13_method_25_code 4 = .ok (.getfield 157, 3) := by decide +kernel
theorem d_Model_termOf_7 : decode prog_13_method_25_code 7 = .ok (.if_icmp .ge 37, 3) := by decide +kernel
theorem d_Model_termOf_10 : decode prog_13_method_25_code 10 = .ok (.aload_n 0, 1) := by decide +kernel
theorem d_Model_termOf_11 : decode prog_13_method_25_code 11 = .ok (.aload_n 0, 1) := by decide +kernel
theorem d_Model_termOf_12 : decode prog_13_method_25_code 12 = .ok (.getfield 18, 3) := by decide +kernel
theorem d_Model_termOf_15 : decode prog_13_method_25_code 15 = .ok (.bipush 12, 2) := by decide +kernel
theorem d_Model_termOf_17 : decode prog_13_method_25_code 17 = .ok (.iload_n 1, 1) := by decide +kernel
theorem d_Model_termOf_18 : decode prog_13_method_25_code 18 = .ok (.imul, 1) := by decide +kernel
theorem d_Model_termOf_19 : decode prog_13_method_25_code 19 = .ok (.aload_n 0, 1) := by decide +kernel
theorem d_Model_termOf_20 : decode prog_13_method_25_code 20 = .ok (.getfield 21, 3) := by decide +kernel
theorem d_Model_termOf_23 : decode prog_13_method_25_code 23 = .ok (.iload_n 1, 1) := by decide +kernel
theorem d_Model_termOf_24 : decode prog_13_method_25_code 24 = .ok (.iaload, 1) := by decide +kernel
theorem d_Model_termOf_25 : decode prog_13_method_25_code 25 = .ok (.invokevirtual 160, 3) := by decide +kernel
theorem d_Model_termOf_28 : decode prog_13_method_25_code 28 = .ok (.ifCond .eq 10, 3) := by decide +kernel
theorem d_Model_termOf_31 : decode prog_13_method_25_code 31 = .ok (.aload_n 0, 1) := by decide +kernel
theorem d_Model_termOf_32 : decode prog_13_method_25_code 32 = .ok (.getfield 25, 3) := by decide +kernel
theorem d_Model_termOf_35 : decode prog_13_method_25_code 35 = .ok (.iload_n 1, 1) := by decide +kernel
theorem d_Model_termOf_36 : decode prog_13_method_25_code 36 = .ok (.iaload, 1) := by decide +kernel
theorem d_Model_termOf_37 : decode prog_13_method_25_code 37 = .ok (.ireturn, 1) := by decide +kernel
theorem d_Model_termOf_38 : decode prog_13_method_25_code 38 = .ok (.iinc 1 1, 3) := by decide +kernel
theorem d_Model_termOf_41 : decode prog_13_method_25_code 41 = .ok (.goto (-39), 3) := by decide +kernel
theorem d_Model_termOf_44 : decode prog_13_method_25_code 44 = .ok (.iconst (-1), 1) := by decide +kernel
theorem d_Model_termOf_45 : decode prog_13_method_25_code 45 = .ok (.ireturn, 1) := by decide +kernel
noncomputable def M_Model_termOf_b2 (x1 : Int32) (u : gSt) : Option ((Int32 × gSt) ⊕ ((gSt) ⊕ (Int32 × gSt))) :=
  if (u.1 42 7) ≤ x1 then
    (some (.inr (.inl u)))
  else
    (gc (gIn x1 (gLen 45)) <| (M_Model_isWord 44 ((12 : Int32) * x1) (u.2.2.1 45 (gIx x1)) u).bind fun q25 =>
    if q25.1 = (0 : Int32) then
      (some (.inl (x1 + (1 : Int32), q25.2)))
    else
      (some (.inr (.inr (x1, q25.2)))))
set_option maxHeartbeats 4000000 in
set_option maxRecDepth 100000 in
theorem t_Model_termOf_b2 (C : gX "TermDeskModel" prog_13_method_25_code 2 (some .int) 1 25 R cells slots cy D ρ A p s m args meth c) {x1 : Int32} {u : gSt} {z : (Int32 × gSt) ⊕ ((gSt) ⊕ (Int32 × gSt))} (hM : M_Model_termOf_b2 x1 u = some z) (hN : ∀ x1' u', z = .inl (x1', u') → gAt p l e R s m args below meth c Q H0 cells slots cy D ρ A 2 2 [(0, .ref (ρ 42)), (1, .int (x1'))] [] (u')) (hE0 : ∀ u', z = .inr (.inl u') → gAt p l e R s m args below meth c Q H0 cells slots cy D ρ A 2 44 [] [] (u')) (hE1 : ∀ x1' u', z = .inr (.inr (x1', u')) → gAt p l e R s m args below meth c Q H0 cells slots cy D ρ A 2 31 [(0, .ref (ρ 42)), (1, .int (x1'))] [] (u')) : gAt p l e R s m args below meth c Q H0 cells slots cy D ρ A 2 2 [(0, .ref (ρ 42)), (1, .int x1)] [] u := by
  intro ls H locs hl hP hS
  have hx := C.1
  have hb := C.2.1
  unfold M_Model_termOf_b2 at hM
  refine lv_iload_n hx hb d_Model_termOf_2 rfl (lv_at hl 1 rfl) ?_
  refine lv_aload_n hx hb d_Model_termOf_3 rfl (lv_at hl 0 rfl) ?_
  refine g_getI C hP gl_DeskModel_157 rfl rfl d_Model_termOf_4 ?_
  refine lv_icmp_ge (tgt := 44) hx hb d_Model_termOf_7 (by decide) (fun hc7 => ?_) (fun hc7 => ?_)
  · replace hM := gi_t hc7 hM
    exact hE0 _ (Option.some.inj hM).symm ls H locs (lv_sub hl [] rfl) hP hS
  · replace hM := gi_f hc7 hM
    refine lv_aload_n hx hb d_Model_termOf_10 rfl (lv_at hl 0 rfl) ?_
    refine lv_aload_n hx hb d_Model_termOf_11 rfl (lv_at hl 0 rfl) ?_
    refine g_getR (b := 44) C hP gl_DeskModel_18 rfl rfl rfl d_Model_termOf_12 ?_
    refine lv_bipush (v := (12 : Int32)) hx hb d_Model_termOf_15 (by decide) ?_
    refine lv_iload_n hx hb d_Model_termOf_17 rfl (lv_at hl 1 rfl) ?_
    refine lv_imul hx hb d_Model_termOf_18 ?_
    refine lv_aload_n hx hb d_Model_termOf_19 rfl (lv_at hl 0 rfl) ?_
    refine g_getR (b := 45) C hP gl_DeskModel_21 rfl rfl rfl d_Model_termOf_20 ?_
    refine lv_iload_n hx hb d_Model_termOf_23 rfl (lv_at hl 1 rfl) ?_
    obtain ⟨hi24, hM⟩ := gc_some hM
    refine g_iald C hP rfl hi24 d_Model_termOf_24 ?_
    obtain ⟨q25, hq25, hM⟩ := gb_some hM
    refine g_backI (g_runV (As := [.ref (ρ 44), .int ((12 : Int32) * x1), .int (u.2.2.1 45 (gIx x1))]) C hP (c_Model_isWord C.2.2.2.2.2.2.2.2.1 hq25) gi_Model_isWord gm_Model_160 rfl rfl (by decide) (by decide) hl.1 rfl (Nat.le_of_ble_eq_true rfl) d_Model_termOf_25) hS (fun H locs hP hS => ?_)
    refine lv_if_eq (tgt := 38) hx hb d_Model_termOf_28 (by decide) (fun hc28 => ?_) (fun hc28 => ?_)
    · replace hM := gi_t hc28 hM
      refine lv_iinc (k := 1) (v := x1 + (1 : Int32)) (lv' := [(1, .int (x1 + (1 : Int32))), (0, .ref (ρ 42))]) hx hb d_Model_termOf_38 hl rfl (congrArg (fun z => x1 + z) (by decide)) (by decide) rfl (fun ls hl => ?_)
      refine lv_goto (tgt := 2) hx hb d_Model_termOf_41 (by decide) ?_
      exact hN _ _ (Option.some.inj hM).symm ls H locs (lv_sub hl [1, 0] rfl) hP hS
    · replace hM := gi_f hc28 hM
      exact hE1 _ _ (Option.some.inj hM).symm ls H locs (lv_sub hl [0, 1] rfl) hP hS
noncomputable def M_Model_termOf_L2 : (Int32 × gSt) → Option ((Int32 × gSt) ⊕ ((gSt) ⊕ (Int32 × gSt))) := fun x => M_Model_termOf_b2 x.1 x.2
theorem t_Model_termOf_L2 (C : gX "TermDeskModel" prog_13_method_25_code 2 (some .int) 1 25 R cells slots cy D ρ A p s m args meth c) {x1 : Int32} {u : gSt} {yy : (gSt) ⊕ (Int32 × gSt)} (hL : gLp M_Model_termOf_L2 (x1, u) = some yy) (hE0 : (∀ y', yy = (.inl y') → gAt p l e R s m args below meth c Q H0 cells slots cy D ρ A 2 44 [] [] (y'))) (hE1 : (∀ y', yy = (.inr y') → gAt p l e R s m args below meth c Q H0 cells slots cy D ρ A 2 31 [(0, .ref (ρ 42)), (1, .int (y'.1))] [] (y'.2))) : gAt p l e R s m args below meth c Q H0 cells slots cy D ρ A 2 2 [(0, .ref (ρ 42)), (1, .int x1)] [] u :=
  g_loop (f := M_Model_termOf_L2) (P := fun x => gAt p l e R s m args below meth c Q H0 cells slots cy D ρ A 2 2 [(0, .ref (ρ 42)), (1, .int x.1)] [] x.2) (E := fun yy => (∀ y', yy = (.inl y') → gAt p l e R s m args below meth c Q H0 cells slots cy D ρ A 2 44 [] [] (y')) ∧ (∀ y', yy = (.inr y') → gAt p l e R s m args below meth c Q H0 cells slots cy D ρ A 2 31 [(0, .ref (ρ 42)), (1, .int (y'.1))] [] (y'.2))) (fun x z hf hN hE => t_Model_termOf_b2 C hf (fun x1' u' h => hN (x1', u') h) (fun u' h => (hE _ h).1 u' rfl) (fun x1' u' h => (hE _ h).2 (x1', u') rfl)) hL ⟨hE0, hE1⟩
noncomputable def M_Model_termOf (u : gSt) : Option ((Int32 × gSt)) :=
  (gLp M_Model_termOf_L2 ((0 : Int32), u)).bind fun y2 =>
  (Sum.elim (fun y2_0 => some ((-1 : Int32), y2_0)) (fun y2_1 => gc (gIn y2_1.1 (gLen 46)) <| some (y2_1.2.2.2.1 46 (gIx y2_1.1), y2_1.2))) y2
set_option maxHeartbeats 4000000 in
set_option maxRecDepth 100000 in
theorem t_Model_termOf (C : gX "TermDeskModel" prog_13_method_25_code 2 (some .int) 1 25 R cells slots cy D ρ A p s m args meth c) {u : gSt} {z : (Int32 × gSt)} (hM : M_Model_termOf u = some z) (hR : gRtI p l e R s m args below meth c Q H0 cells slots cy D ρ A prog_13_method_25_code z.1 z.2) : gAt p l e R s m args below meth c Q H0 cells slots cy D ρ A 2 0 [(0, .ref (ρ 42))] [] u := by
  intro ls H locs hl hP hS
  have hx := C.1
  have hb := C.2.1
  unfold M_Model_termOf at hM
  refine lv_iconst (v := (0 : Int32)) hx hb d_Model_termOf_0 (by decide) ?_
  refine lv_istore_n (lv' := [(1, .int (0 : Int32)), (0, .ref (ρ 42))]) hx hb d_Model_termOf_1 rfl hl (by decide) rfl (fun ls hl => ?_)
  obtain ⟨y2, hL2, hM⟩ := gb_some hM
  refine t_Model_termOf_L2 C hL2 (fun y2_0 hy => ?_) (fun y2_1 hy => ?_) ls H locs (lv_sub hl [1, 0] rfl) hP hS
  · subst hy
    replace hM := gs_l hM
    intro ls H locs hl hP hS
    refine lv_iconst (v := (-1 : Int32)) hx hb d_Model_termOf_44 (by decide) ?_
    obtain rfl := Option.some.inj hM
    exact hR _ ls H locs d_Model_termOf_45 hP hS
  · subst hy
    replace hM := gs_r hM
    intro ls H locs hl hP hS
    refine lv_aload_n hx hb d_Model_termOf_31 rfl (lv_at hl 0 rfl) ?_
    refine g_getR (b := 46) C hP gl_DeskModel_25 rfl rfl rfl d_Model_termOf_32 ?_
    refine lv_iload_n hx hb d_Model_termOf_35 rfl (lv_at hl 1 rfl) ?_
    obtain ⟨hi36, hM⟩ := gc_some hM
    refine g_iald C hP rfl hi36 d_Model_termOf_36 ?_
    obtain rfl := Option.some.inj hM
    exact hR _ ls H locs d_Model_termOf_37 hP hS
theorem c_Model_termOf {l : Launch} {cy : Nat → ClassId} {D : va_G} {ρ : Nat → Nat} {A : Nat → Prop} (hD : gD ρ A) {u : gSt} {z : (Int32 × gSt)} (hM : M_Model_termOf u = some z) : gCtI l y_Model_termOf prog_13_method_25_code 2 (some .int) 1 25 cy D ρ A [.ref (ρ 42)] u z.1 z.2 :=
  g_met (by decide) hD (Nat.le_of_ble_eq_true rfl) (fun p e s m below meth c ls X hl hP => t_Model_termOf X hM (fun pc ls H locs hd hP hS => g_iret X hP hS hd) ls _ [] hl hP va_S.rf)
end
section
variable {p : Program} {l : Launch} {e : Env} {R : Room} {s : State} {m : MethodId} {args : Array Value} {below : List Frame} {meth : Method} {c : Code} {Q : State → Prop} {H0 : Heap} {cells slots : Nat} {cy : Nat → ClassId} {D : va_G} {ρ : Nat → Nat} {A : Nat → Prop}
def y_Model_geneOf : MethodName := ⟨"TermDeskModel", "geneOf", "()I"⟩
theorem gi_Model_geneOf : gMi y_Model_geneOf prog_13_method_26_code 2 (some .int) 0 8 := ⟨(gWs_at 1241 (by decide +kernel) (by decide +kernel)), (gWs_at 1240 (by decide +kernel) (by decide +kernel)), (gWs_at 83 (by decide +kernel) (by decide +kernel)), (gWs_at 125 (by decide +kernel) (by decide +kernel)), ⟨by decide +kernel, by decide +kernel, by decide +kernel⟩, _, _, rfl⟩
theorem gm_Model_181 : gMk "TermDeskModel" 181 y_Model_geneOf := Or.inl (gWs_at 1238 (by decide +kernel) (by decide +kernel))
theorem d_Model_geneOf_0 : decode prog_13_method_26_code 0 = .ok (.iconst 0, 1) := by decide +kernel
theorem d_Model_geneOf_1 : decode prog_13_method_26_code 1 = .ok (.istore_n 1, 1) := by decide +kernel
theorem d_Model_geneOf_2 : decode prog_13_method_26_code 2 = .ok (.iload_n 1, 1) := by decide +kernel
theorem d_Model_geneOf_3 : decode prog_13_method_26_code 3 = .ok (.aload_n 0, 1) := by decide +kernel
theorem d_Model_geneOf_4 : decode prog_13_method_26_code 4 = .ok (.getfield 164, 3) := by decide +kernel
theorem d_Model_geneOf_7 : decode prog_13_method_26_code 7 = .ok (.if_icmp .ge 32, 3) := by decide +kernel
theorem d_Model_geneOf_10 : decode prog_13_method_26_code 10 = .ok (.aload_n 0, 1) := by decide +kernel
theorem d_Model_geneOf_11 : decode prog_13_method_26_code 11 = .ok (.aload_n 0, 1) := by decide +kernel
theorem d_Model_geneOf_12 : decode prog_13_method_26_code 12 = .ok (.getfield 28, 3) := by decide +kernel
theorem d_Model_geneOf_15 : decode prog_13_method_26_code 15 = .ok (.bipush 12, 2) := by decide +kernel
theorem d_Model_geneOf_17 : decode prog_13_method_26_code 17 = .ok (.iload_n 1, 1) := by decide +kernel
theorem d_Model_geneOf_18 : decode prog_13_method_26_code 18 = .ok (.imul, 1) := by decide +kernel
theorem d_Model_geneOf_19 : decode prog_13_method_26_code 19 = .ok (.aload_n 0, 1) := by decide +kernel
theorem d_Model_geneOf_20 : decode prog_13_method_26_code 20 = .ok (.getfield 31, 3) := by decide +kernel
theorem d_Model_geneOf_23 : decode prog_13_method_26_code 23 = .ok (.iload_n 1, 1) := by decide +kernel
theorem d_Model_geneOf_24 : decode prog_13_method_26_code 24 = .ok (.iaload, 1) := by decide +kernel
theorem d_Model_geneOf_25 : decode prog_13_method_26_code 25 = .ok (.invokevirtual 160, 3) := by decide +kernel
theorem d_Model_geneOf_28 : decode prog_13_method_26_code 28 = .ok (.ifCond .eq 5, 3) := by decide +kernel
theorem d_Model_geneOf_31 : decode prog_13_method_26_code 31 = .ok (.iload_n 1, 1) := by decide +kernel
theorem d_Model_geneOf_32 : decode prog_13_method_26_code 32 = .ok (.ireturn, 1) := by decide +kernel
theorem d_Model_geneOf_33 : decode prog_13_method_26_code 33 = .ok (.iinc 1 1, 3) := by decide +kernel
theorem d_Model_geneOf_36 : decode prog_13_method_26_code 36 = .ok (.goto (-34), 3) := by decide +kernel
theorem d_Model_geneOf_39 : decode prog_13_method_26_code 39 = .ok (.iconst (-1), 1) := by decide +kernel
theorem d_Model_geneOf_40 : decode prog_13_method_26_code 40 = .ok (.ireturn, 1) := by decide +kernel
noncomputable def M_Model_geneOf_b2 (x1 : Int32) (u : gSt) : Option ((Int32 × gSt) ⊕ ((gSt) ⊕ (Int32 × gSt))) :=
  if (u.1 42 10) ≤ x1 then
    (some (.inr (.inl u)))
  else
    (gc (gIn x1 (gLen 48)) <| (M_Model_isWord 47 ((12 : Int32) * x1) (u.2.2.1 48 (gIx x1)) u).bind fun q25 =>
    if q25.1 = (0 : Int32) then
      (some (.inl (x1 + (1 : Int32), q25.2)))
    else
      (some (.inr (.inr (x1, q25.2)))))
set_option maxHeartbeats 4000000 in
set_option maxRecDepth 100000 in
theorem t_Model_geneOf_b2 (C : gX "TermDeskModel" prog_13_method_26_code 2 (some .int) 1 25 R cells slots cy D ρ A p s m args meth c) {x1 : Int32} {u : gSt} {z : (Int32 × gSt) ⊕ ((gSt) ⊕ (Int32 × gSt))} (hM : M_Model_geneOf_b2 x1 u = some z) (hN : ∀ x1' u', z = .inl (x1', u') → gAt p l e R s m args below meth c Q H0 cells slots cy D ρ A 2 2 [(0, .ref (ρ 42)), (1, .int (x1'))] [] (u')) (hE0 : ∀ u', z = .inr (.inl u') → gAt p l e R s m args below meth c Q H0 cells slots cy D ρ A 2 39 [] [] (u')) (hE1 : ∀ x1' u', z = .inr (.inr (x1', u')) → gAt p l e R s m args below meth c Q H0 cells slots cy D ρ A 2 31 [(1, .int (x1'))] [] (u')) : gAt p l e R s m args below meth c Q H0 cells slots cy D ρ A 2 2 [(0, .ref (ρ 42)), (1, .int x1)] [] u := by
  intro ls H locs hl hP hS
  have hx := C.1
  have hb := C.2.1
  unfold M_Model_geneOf_b2 at hM
  refine lv_iload_n hx hb d_Model_geneOf_2 rfl (lv_at hl 1 rfl) ?_
  refine lv_aload_n hx hb d_Model_geneOf_3 rfl (lv_at hl 0 rfl) ?_
  refine g_getI C hP gl_DeskModel_164 rfl rfl d_Model_geneOf_4 ?_
  refine lv_icmp_ge (tgt := 39) hx hb d_Model_geneOf_7 (by decide) (fun hc7 => ?_) (fun hc7 => ?_)
  · replace hM := gi_t hc7 hM
    exact hE0 _ (Option.some.inj hM).symm ls H locs (lv_sub hl [] rfl) hP hS
  · replace hM := gi_f hc7 hM
    refine lv_aload_n hx hb d_Model_geneOf_10 rfl (lv_at hl 0 rfl) ?_
    refine lv_aload_n hx hb d_Model_geneOf_11 rfl (lv_at hl 0 rfl) ?_
    refine g_getR (b := 47) C hP gl_DeskModel_28 rfl rfl rfl d_Model_geneOf_12 ?_
    refine lv_bipush (v := (12 : Int32)) hx hb d_Model_geneOf_15 (by decide) ?_
    refine lv_iload_n hx hb d_Model_geneOf_17 rfl (lv_at hl 1 rfl) ?_
    refine lv_imul hx hb d_Model_geneOf_18 ?_
    refine lv_aload_n hx hb d_Model_geneOf_19 rfl (lv_at hl 0 rfl) ?_
    refine g_getR (b := 48) C hP gl_DeskModel_31 rfl rfl rfl d_Model_geneOf_20 ?_
    refine lv_iload_n hx hb d_Model_geneOf_23 rfl (lv_at hl 1 rfl) ?_
    obtain ⟨hi24, hM⟩ := gc_some hM
    refine g_iald C hP rfl hi24 d_Model_geneOf_24 ?_
    obtain ⟨q25, hq25, hM⟩ := gb_some hM
    refine g_backI (g_runV (As := [.ref (ρ 47), .int ((12 : Int32) * x1), .int (u.2.2.1 48 (gIx x1))]) C hP (c_Model_isWord C.2.2.2.2.2.2.2.2.1 hq25) gi_Model_isWord gm_Model_160 rfl rfl (by decide) (by decide) hl.1 rfl (Nat.le_of_ble_eq_true rfl) d_Model_geneOf_25) hS (fun H locs hP hS => ?_)
    refine lv_if_eq (tgt := 33) hx hb d_Model_geneOf_28 (by decide) (fun hc28 => ?_) (fun hc28 => ?_)
    · replace hM := gi_t hc28 hM
      refine lv_iinc (k := 1) (v := x1 + (1 : Int32)) (lv' := [(1, .int (x1 + (1 : Int32))), (0, .ref (ρ 42))]) hx hb d_Model_geneOf_33 hl rfl (congrArg (fun z => x1 + z) (by decide)) (by decide) rfl (fun ls hl => ?_)
      refine lv_goto (tgt := 2) hx hb d_Model_geneOf_36 (by decide) ?_
      exact hN _ _ (Option.some.inj hM).symm ls H locs (lv_sub hl [1, 0] rfl) hP hS
    · replace hM := gi_f hc28 hM
      exact hE1 _ _ (Option.some.inj hM).symm ls H locs (lv_sub hl [1] rfl) hP hS
noncomputable def M_Model_geneOf_L2 : (Int32 × gSt) → Option ((Int32 × gSt) ⊕ ((gSt) ⊕ (Int32 × gSt))) := fun x => M_Model_geneOf_b2 x.1 x.2
theorem t_Model_geneOf_L2 (C : gX "TermDeskModel" prog_13_method_26_code 2 (some .int) 1 25 R cells slots cy D ρ A p s m args meth c) {x1 : Int32} {u : gSt} {yy : (gSt) ⊕ (Int32 × gSt)} (hL : gLp M_Model_geneOf_L2 (x1, u) = some yy) (hE0 : (∀ y', yy = (.inl y') → gAt p l e R s m args below meth c Q H0 cells slots cy D ρ A 2 39 [] [] (y'))) (hE1 : (∀ y', yy = (.inr y') → gAt p l e R s m args below meth c Q H0 cells slots cy D ρ A 2 31 [(1, .int (y'.1))] [] (y'.2))) : gAt p l e R s m args below meth c Q H0 cells slots cy D ρ A 2 2 [(0, .ref (ρ 42)), (1, .int x1)] [] u :=
  g_loop (f := M_Model_geneOf_L2) (P := fun x => gAt p l e R s m args below meth c Q H0 cells slots cy D ρ A 2 2 [(0, .ref (ρ 42)), (1, .int x.1)] [] x.2) (E := fun yy => (∀ y', yy = (.inl y') → gAt p l e R s m args below meth c Q H0 cells slots cy D ρ A 2 39 [] [] (y')) ∧ (∀ y', yy = (.inr y') → gAt p l e R s m args below meth c Q H0 cells slots cy D ρ A 2 31 [(1, .int (y'.1))] [] (y'.2))) (fun x z hf hN hE => t_Model_geneOf_b2 C hf (fun x1' u' h => hN (x1', u') h) (fun u' h => (hE _ h).1 u' rfl) (fun x1' u' h => (hE _ h).2 (x1', u') rfl)) hL ⟨hE0, hE1⟩
noncomputable def M_Model_geneOf (u : gSt) : Option ((Int32 × gSt)) :=
  (gLp M_Model_geneOf_L2 ((0 : Int32), u)).bind fun y2 =>
  (Sum.elim (fun y2_0 => some ((-1 : Int32), y2_0)) (fun y2_1 => some (y2_1.1, y2_1.2))) y2
set_option maxHeartbeats 4000000 in
set_option maxRecDepth 100000 in
theorem t_Model_geneOf (C : gX "TermDeskModel" prog_13_method_26_code 2 (some .int) 1 25 R cells slots cy D ρ A p s m args meth c) {u : gSt} {z : (Int32 × gSt)} (hM : M_Model_geneOf u = some z) (hR : gRtI p l e R s m args below meth c Q H0 cells slots cy D ρ A prog_13_method_26_code z.1 z.2) : gAt p l e R s m args below meth c Q H0 cells slots cy D ρ A 2 0 [(0, .ref (ρ 42))] [] u := by
  intro ls H locs hl hP hS
  have hx := C.1
  have hb := C.2.1
  unfold M_Model_geneOf at hM
  refine lv_iconst (v := (0 : Int32)) hx hb d_Model_geneOf_0 (by decide) ?_
  refine lv_istore_n (lv' := [(1, .int (0 : Int32)), (0, .ref (ρ 42))]) hx hb d_Model_geneOf_1 rfl hl (by decide) rfl (fun ls hl => ?_)
  obtain ⟨y2, hL2, hM⟩ := gb_some hM
  refine t_Model_geneOf_L2 C hL2 (fun y2_0 hy => ?_) (fun y2_1 hy => ?_) ls H locs (lv_sub hl [1, 0] rfl) hP hS
  · subst hy
    replace hM := gs_l hM
    intro ls H locs hl hP hS
    refine lv_iconst (v := (-1 : Int32)) hx hb d_Model_geneOf_39 (by decide) ?_
    obtain rfl := Option.some.inj hM
    exact hR _ ls H locs d_Model_geneOf_40 hP hS
  · subst hy
    replace hM := gs_r hM
    intro ls H locs hl hP hS
    refine lv_iload_n hx hb d_Model_geneOf_31 rfl (lv_at hl 0 rfl) ?_
    obtain rfl := Option.some.inj hM
    exact hR _ ls H locs d_Model_geneOf_32 hP hS
theorem c_Model_geneOf {l : Launch} {cy : Nat → ClassId} {D : va_G} {ρ : Nat → Nat} {A : Nat → Prop} (hD : gD ρ A) {u : gSt} {z : (Int32 × gSt)} (hM : M_Model_geneOf u = some z) : gCtI l y_Model_geneOf prog_13_method_26_code 2 (some .int) 1 25 cy D ρ A [.ref (ρ 42)] u z.1 z.2 :=
  g_met (by decide) hD (Nat.le_of_ble_eq_true rfl) (fun p e s m below meth c ls X hl hP => t_Model_geneOf X hM (fun pc ls H locs hd hP hS => g_iret X hP hS hd) ls _ [] hl hP va_S.rf)
end
section
variable {p : Program} {l : Launch} {e : Env} {R : Room} {s : State} {m : MethodId} {args : Array Value} {below : List Frame} {meth : Method} {c : Code} {Q : State → Prop} {H0 : Heap} {cells slots : Nat} {cy : Nat → ClassId} {D : va_G} {ρ : Nat → Nat} {A : Nat → Prop}
def y_Model_termNext : MethodName := ⟨"TermDeskModel", "termNext", "()I"⟩
theorem gi_Model_termNext : gMi y_Model_termNext prog_13_method_27_code 2 (some .int) 0 8 := ⟨(gWs_at 1229 (by decide +kernel) (by decide +kernel)), (gWs_at 1228 (by decide +kernel) (by decide +kernel)), (gWs_at 80 (by decide +kernel) (by decide +kernel)), (gWs_at 125 (by decide +kernel) (by decide +kernel)), ⟨by decide +kernel, by decide +kernel, by decide +kernel⟩, _, _, rfl⟩
theorem gm_Model_178 : gMk "TermDeskModel" 178 y_Model_termNext := Or.inl (gWs_at 1226 (by decide +kernel) (by decide +kernel))
theorem d_Model_termNext_0 : decode prog_13_method_27_code 0 = .ok (.aload_n 0, 1) := by decide +kernel
theorem d_Model_termNext_1 : decode prog_13_method_27_code 1 = .ok (.invokevirtual 167, 3) := by decide +kernel
theorem d_Model_termNext_4 : decode prog_13_method_27_code 4 = .ok (.ifCond .eq 10, 3) := by decide +kernel
theorem d_Model_termNext_7 : decode prog_13_method_27_code 7 = .ok (.aload_n 0, 1) := by decide +kernel
theorem d_Model_termNext_8 : decode prog_13_method_27_code 8 = .ok (.invokevirtual 171, 3) := by decide +kernel
theorem d_Model_termNext_11 : decode prog_13_method_27_code 11 = .ok (.ifCond .ne 5, 3) := by decide +kernel
theorem d_Model_termNext_14 : decode prog_13_method_27_code 14 = .ok (.iconst (-1), 1) := by decide +kernel
theorem d_Model_termNext_15 : decode prog_13_method_27_code 15 = .ok (.ireturn, 1) := by decide +kernel
theorem d_Model_termNext_16 : decode prog_13_method_27_code 16 = .ok (.aload_n 0, 1) := by decide +kernel
theorem d_Model_termNext_17 : decode prog_13_method_27_code 17 = .ok (.invokevirtual 174, 3) := by decide +kernel
theorem d_Model_termNext_20 : decode prog_13_method_27_code 20 = .ok (.istore_n 1, 1) := by decide +kernel
theorem d_Model_termNext_21 : decode prog_13_method_27_code 21 = .ok (.iload_n 1, 1) := by decide +kernel
theorem d_Model_termNext_22 : decode prog_13_method_27_code 22 = .ok (.iconst (-1), 1) := by decide +kernel
theorem d_Model_termNext_23 : decode prog_13_method_27_code 23 = .ok (.if_icmp .ne 13, 3) := by decide +kernel
theorem d_Model_termNext_26 : decode prog_13_method_27_code 26 = .ok (.aload_n 0, 1) := by decide +kernel
theorem d_Model_termNext_27 : decode prog_13_method_27_code 27 = .ok (.iconst 3, 1) := by decide +kernel
theorem d_Model_termNext_28 : decode prog_13_method_27_code 28 = .ok (.aload_n 0, 1) := by decide +kernel
theorem d_Model_termNext_29 : decode prog_13_method_27_code 29 = .ok (.getfield 150, 3) := by decide +kernel
theorem d_Model_termNext_32 : decode prog_13_method_27_code 32 = .ok (.invokevirtual 146, 3) := by decide +kernel
theorem d_Model_termNext_35 : decode prog_13_method_27_code 35 = .ok (.pop, 1) := by decide +kernel
theorem d_Model_termNext_36 : decode prog_13_method_27_code 36 = .ok (.iload_n 1, 1) := by decide +kernel
theorem d_Model_termNext_37 : decode prog_13_method_27_code 37 = .ok (.ireturn, 1) := by decide +kernel
noncomputable def M_Model_termNext_b14 (u : gSt) : Option ((Int32 × gSt)) :=
  some ((-1 : Int32), u)
set_option maxHeartbeats 4000000 in
set_option maxRecDepth 100000 in
theorem t_Model_termNext_b14 (C : gX "TermDeskModel" prog_13_method_27_code 2 (some .int) 2 46 R cells slots cy D ρ A p s m args meth c) {u : gSt} {z : (Int32 × gSt)} (hM : M_Model_termNext_b14 u = some z) (hR : gRtI p l e R s m args below meth c Q H0 cells slots cy D ρ A prog_13_method_27_code z.1 z.2) : gAt p l e R s m args below meth c Q H0 cells slots cy D ρ A 2 14 [] [] u := by
  intro ls H locs hl hP hS
  have hx := C.1
  have hb := C.2.1
  unfold M_Model_termNext_b14 at hM
  refine lv_iconst (v := (-1 : Int32)) hx hb d_Model_termNext_14 (by decide) ?_
  obtain rfl := Option.some.inj hM
  exact hR _ ls H locs d_Model_termNext_15 hP hS
noncomputable def M_Model_termNext_b36 (x1 : Int32) (u : gSt) : Option ((Int32 × gSt)) :=
  some (x1, u)
set_option maxHeartbeats 4000000 in
set_option maxRecDepth 100000 in
theorem t_Model_termNext_b36 (C : gX "TermDeskModel" prog_13_method_27_code 2 (some .int) 2 46 R cells slots cy D ρ A p s m args meth c) {x1 : Int32} {u : gSt} {z : (Int32 × gSt)} (hM : M_Model_termNext_b36 x1 u = some z) (hR : gRtI p l e R s m args below meth c Q H0 cells slots cy D ρ A prog_13_method_27_code z.1 z.2) : gAt p l e R s m args below meth c Q H0 cells slots cy D ρ A 2 36 [(1, .int x1)] [] u := by
  intro ls H locs hl hP hS
  have hx := C.1
  have hb := C.2.1
  unfold M_Model_termNext_b36 at hM
  refine lv_iload_n hx hb d_Model_termNext_36 rfl (lv_at hl 0 rfl) ?_
  obtain rfl := Option.some.inj hM
  exact hR _ ls H locs d_Model_termNext_37 hP hS
noncomputable def M_Model_termNext (u : gSt) : Option ((Int32 × gSt)) :=
  (M_Model_next u).bind fun q1 =>
  if q1.1 = (0 : Int32) then
    (M_Model_termNext_b14 q1.2)
  else
    ((M_Model_isName q1.2).bind fun q8 =>
    if q8.1 = (0 : Int32) then
      (M_Model_termNext_b14 q8.2)
    else
      ((M_Model_termOf q8.2).bind fun q17 =>
      if q17.1 = (-1 : Int32) then
        ((M_Model_stop (3 : Int32) (q17.2.1 42 22) q17.2).bind fun q32 =>
        M_Model_termNext_b36 q17.1 q32.2)
      else
        (M_Model_termNext_b36 q17.1 q17.2)))
set_option maxHeartbeats 4000000 in
set_option maxRecDepth 100000 in
theorem t_Model_termNext (C : gX "TermDeskModel" prog_13_method_27_code 2 (some .int) 2 46 R cells slots cy D ρ A p s m args meth c) {u : gSt} {z : (Int32 × gSt)} (hM : M_Model_termNext u = some z) (hR : gRtI p l e R s m args below meth c Q H0 cells slots cy D ρ A prog_13_method_27_code z.1 z.2) : gAt p l e R s m args below meth c Q H0 cells slots cy D ρ A 2 0 [(0, .ref (ρ 42))] [] u := by
  intro ls H locs hl hP hS
  have hx := C.1
  have hb := C.2.1
  unfold M_Model_termNext at hM
  refine lv_aload_n hx hb d_Model_termNext_0 rfl (lv_at hl 0 rfl) ?_
  obtain ⟨q1, hq1, hM⟩ := gb_some hM
  refine g_backI (g_runV (As := []) C hP (c_Model_next C.2.2.2.2.2.2.2.2.1 hq1) gi_Model_next gm_Model_167 rfl rfl (by decide) (by decide) hl.1 rfl (Nat.le_of_ble_eq_true rfl) d_Model_termNext_1) hS (fun H locs hP hS => ?_)
  refine lv_if_eq (tgt := 14) hx hb d_Model_termNext_4 (by decide) (fun hc4 => ?_) (fun hc4 => ?_)
  · replace hM := gi_t hc4 hM
    exact t_Model_termNext_b14 C hM hR ls H locs (lv_sub hl [] rfl) hP hS
  · replace hM := gi_f hc4 hM
    refine lv_aload_n hx hb d_Model_termNext_7 rfl (lv_at hl 0 rfl) ?_
    obtain ⟨q8, hq8, hM⟩ := gb_some hM
    refine g_backI (g_runV (As := []) C hP (c_Model_isName C.2.2.2.2.2.2.2.2.1 hq8) gi_Model_isName gm_Model_171 rfl rfl (by decide) (by decide) hl.1 rfl (Nat.le_of_ble_eq_true rfl) d_Model_termNext_8) hS (fun H locs hP hS => ?_)
    refine lv_if_ne (tgt := 16) hx hb d_Model_termNext_11 (by decide) (fun hc11 => ?_) (fun hc11 => ?_)
    · replace hM := gi_f hc11 hM
      refine lv_aload_n hx hb d_Model_termNext_16 rfl (lv_at hl 0 rfl) ?_
      obtain ⟨q17, hq17, hM⟩ := gb_some hM
      refine g_backI (g_runV (As := []) C hP (c_Model_termOf C.2.2.2.2.2.2.2.2.1 hq17) gi_Model_termOf gm_Model_174 rfl rfl (by decide) (by decide) hl.1 rfl (Nat.le_of_ble_eq_true rfl) d_Model_termNext_17) hS (fun H locs hP hS => ?_)
      refine lv_istore_n (lv' := [(1, .int q17.1), (0, .ref (ρ 42))]) hx hb d_Model_termNext_20 rfl hl (by decide) rfl (fun ls hl => ?_)
      refine lv_iload_n hx hb d_Model_termNext_21 rfl (lv_at hl 0 rfl) ?_
      refine lv_iconst (v := (-1 : Int32)) hx hb d_Model_termNext_22 (by decide) ?_
      refine lv_icmp_ne (tgt := 36) hx hb d_Model_termNext_23 (by decide) (fun hc23 => ?_) (fun hc23 => ?_)
      · replace hM := gi_f hc23 hM
        exact t_Model_termNext_b36 C hM hR ls H locs (lv_sub hl [0] rfl) hP hS
      · replace hM := gi_t hc23 hM
        refine lv_aload_n hx hb d_Model_termNext_26 rfl (lv_at hl 1 rfl) ?_
        refine lv_iconst (v := (3 : Int32)) hx hb d_Model_termNext_27 (by decide) ?_
        refine lv_aload_n hx hb d_Model_termNext_28 rfl (lv_at hl 1 rfl) ?_
        refine g_getI C hP gl_DeskModel_150 rfl rfl d_Model_termNext_29 ?_
        obtain ⟨q32, hq32, hM⟩ := gb_some hM
        refine g_backI (g_runV (As := [.int (3 : Int32), .int (q17.2.1 42 22)]) C hP (c_Model_stop C.2.2.2.2.2.2.2.2.1 hq32) gi_Model_stop gm_Model_146 rfl rfl (by decide) (by decide) hl.1 rfl (Nat.le_of_ble_eq_true rfl) d_Model_termNext_32) hS (fun H locs hP hS => ?_)
        refine lv_pop hx hb d_Model_termNext_35 rfl ?_
        exact t_Model_termNext_b36 C hM hR ls H locs (lv_sub hl [0] rfl) hP hS
    · replace hM := gi_t hc11 hM
      exact t_Model_termNext_b14 C hM hR ls H locs (lv_sub hl [] rfl) hP hS
theorem c_Model_termNext {l : Launch} {cy : Nat → ClassId} {D : va_G} {ρ : Nat → Nat} {A : Nat → Prop} (hD : gD ρ A) {u : gSt} {z : (Int32 × gSt)} (hM : M_Model_termNext u = some z) : gCtI l y_Model_termNext prog_13_method_27_code 2 (some .int) 2 46 cy D ρ A [.ref (ρ 42)] u z.1 z.2 :=
  g_met (by decide) hD (Nat.le_of_ble_eq_true rfl) (fun p e s m below meth c ls X hl hP => t_Model_termNext X hM (fun pc ls H locs hd hP hS => g_iret X hP hS hd) ls _ [] hl hP va_S.rf)
end
section
variable {p : Program} {l : Launch} {e : Env} {R : Room} {s : State} {m : MethodId} {args : Array Value} {below : List Frame} {meth : Method} {c : Code} {Q : State → Prop} {H0 : Heap} {cells slots : Nat} {cy : Nat → ClassId} {D : va_G} {ρ : Nat → Nat} {A : Nat → Prop}
def y_Model_youngTerm : MethodName := ⟨"TermDeskModel", "youngTerm", "()I"⟩
theorem gi_Model_youngTerm : gMi y_Model_youngTerm prog_13_method_28_code 2 (some .int) 0 8 := ⟨(gWs_at 1225 (by decide +kernel) (by decide +kernel)), (gWs_at 1224 (by decide +kernel) (by decide +kernel)), (gWs_at 79 (by decide +kernel) (by decide +kernel)), (gWs_at 125 (by decide +kernel) (by decide +kernel)), ⟨by decide +kernel, by decide +kernel, by decide +kernel⟩, _, _, rfl⟩
theorem gm_Model_194 : gMk "TermDeskModel" 194 y_Model_youngTerm := Or.inl (gWs_at 1222 (by decide +kernel) (by decide +kernel))
theorem d_Model_youngTerm_0 : decode prog_13_method_28_code 0 = .ok (.aload_n 0, 1) := by decide +kernel
theorem d_Model_youngTerm_1 : decode prog_13_method_28_code 1 = .ok (.invokevirtual 178, 3) := by decide +kernel
theorem d_Model_youngTerm_4 : decode prog_13_method_28_code 4 = .ok (.istore_n 1, 1) := by decide +kernel
theorem d_Model_youngTerm_5 : decode prog_13_method_28_code 5 = .ok (.iload_n 1, 1) := by decide +kernel
theorem d_Model_youngTerm_6 : decode prog_13_method_28_code 6 = .ok (.iconst (-1), 1) := by decide +kernel
theorem d_Model_youngTerm_7 : decode prog_13_method_28_code 7 = .ok (.if_icmp .eq 24, 3) := by decide +kernel
theorem d_Model_youngTerm_10 : decode prog_13_method_28_code 10 = .ok (.aload_n 0, 1) := by decide +kernel
theorem d_Model_youngTerm_11 : decode prog_13_method_28_code 11 = .ok (.getfield 34, 3) := by decide +kernel
theorem d_Model_youngTerm_14 : decode prog_13_method_28_code 14 = .ok (.iload_n 1, 1) := by decide +kernel
theorem d_Model_youngTerm_15 : decode prog_13_method_28_code 15 = .ok (.iaload, 1) := by decide +kernel
theorem d_Model_youngTerm_16 : decode prog_13_method_28_code 16 = .ok (.iconst 1, 1) := by decide +kernel
theorem d_Model_youngTerm_17 : decode prog_13_method_28_code 17 = .ok (.if_icmp .ne 14, 3) := by decide +kernel
theorem d_Model_youngTerm_20 : decode prog_13_method_28_code 20 = .ok (.aload_n 0, 1) := by decide +kernel
theorem d_Model_youngTerm_21 : decode prog_13_method_28_code 21 = .ok (.bipush 6, 2) := by decide +kernel
theorem d_Model_youngTerm_23 : decode prog_13_method_28_code 23 = .ok (.aload_n 0, 1) := by decide +kernel
theorem d_Model_youngTerm_24 : decode prog_13_method_28_code 24 = .ok (.getfield 150, 3) := by decide +kernel
theorem d_Model_youngTerm_27 : decode prog_13_method_28_code 27 = .ok (.invokevirtual 146, 3) := by decide +kernel
theorem d_Model_youngTerm_30 : decode prog_13_method_28_code 30 = .ok (.pop, 1) := by decide +kernel
theorem d_Model_youngTerm_31 : decode prog_13_method_28_code 31 = .ok (.iload_n 1, 1) := by decide +kernel
theorem d_Model_youngTerm_32 : decode prog_13_method_28_code 32 = .ok (.ireturn, 1) := by decide +kernel
noncomputable def M_Model_youngTerm_b31 (x1 : Int32) (u : gSt) : Option ((Int32 × gSt)) :=
  some (x1, u)
set_option maxHeartbeats 4000000 in
set_option maxRecDepth 100000 in
theorem t_Model_youngTerm_b31 (C : gX "TermDeskModel" prog_13_method_28_code 2 (some .int) 3 67 R cells slots cy D ρ A p s m args meth c) {x1 : Int32} {u : gSt} {z : (Int32 × gSt)} (hM : M_Model_youngTerm_b31 x1 u = some z) (hR : gRtI p l e R s m args below meth c Q H0 cells slots cy D ρ A prog_13_method_28_code z.1 z.2) : gAt p l e R s m args below meth c Q H0 cells slots cy D ρ A 2 31 [(1, .int x1)] [] u := by
  intro ls H locs hl hP hS
  have hx := C.1
  have hb := C.2.1
  unfold M_Model_youngTerm_b31 at hM
  refine lv_iload_n hx hb d_Model_youngTerm_31 rfl (lv_at hl 0 rfl) ?_
  obtain rfl := Option.some.inj hM
  exact hR _ ls H locs d_Model_youngTerm_32 hP hS
noncomputable def M_Model_youngTerm (u : gSt) : Option ((Int32 × gSt)) :=
  (M_Model_termNext u).bind fun q1 =>
  if q1.1 = (-1 : Int32) then
    (M_Model_youngTerm_b31 q1.1 q1.2)
  else
    (gc (gIn q1.1 (gLen 49)) <| if (q1.2.2.2.1 49 (gIx q1.1)) = (1 : Int32) then
      ((M_Model_stop (6 : Int32) (q1.2.1 42 22) q1.2).bind fun q27 =>
      M_Model_youngTerm_b31 q1.1 q27.2)
    else
      (M_Model_youngTerm_b31 q1.1 q1.2))
set_option maxHeartbeats 4000000 in
set_option maxRecDepth 100000 in
theorem t_Model_youngTerm (C : gX "TermDeskModel" prog_13_method_28_code 2 (some .int) 3 67 R cells slots cy D ρ A p s m args meth c) {u : gSt} {z : (Int32 × gSt)} (hM : M_Model_youngTerm u = some z) (hR : gRtI p l e R s m args below meth c Q H0 cells slots cy D ρ A prog_13_method_28_code z.1 z.2) : gAt p l e R s m args below meth c Q H0 cells slots cy D ρ A 2 0 [(0, .ref (ρ 42))] [] u := by
  intro ls H locs hl hP hS
  have hx := C.1
  have hb := C.2.1
  unfold M_Model_youngTerm at hM
  refine lv_aload_n hx hb d_Model_youngTerm_0 rfl (lv_at hl 0 rfl) ?_
  obtain ⟨q1, hq1, hM⟩ := gb_some hM
  refine g_backI (g_runV (As := []) C hP (c_Model_termNext C.2.2.2.2.2.2.2.2.1 hq1) gi_Model_termNext gm_Model_178 rfl rfl (by decide) (by decide) hl.1 rfl (Nat.le_of_ble_eq_true rfl) d_Model_youngTerm_1) hS (fun H locs hP hS => ?_)
  refine lv_istore_n (lv' := [(1, .int q1.1), (0, .ref (ρ 42))]) hx hb d_Model_youngTerm_4 rfl hl (by decide) rfl (fun ls hl => ?_)
  refine lv_iload_n hx hb d_Model_youngTerm_5 rfl (lv_at hl 0 rfl) ?_
  refine lv_iconst (v := (-1 : Int32)) hx hb d_Model_youngTerm_6 (by decide) ?_
  refine lv_icmp_eq (tgt := 31) hx hb d_Model_youngTerm_7 (by decide) (fun hc7 => ?_) (fun hc7 => ?_)
  · replace hM := gi_t hc7 hM
    exact t_Model_youngTerm_b31 C hM hR ls H locs (lv_sub hl [0] rfl) hP hS
  · replace hM := gi_f hc7 hM
    refine lv_aload_n hx hb d_Model_youngTerm_10 rfl (lv_at hl 1 rfl) ?_
    refine g_getR (b := 49) C hP gl_DeskModel_34 rfl rfl rfl d_Model_youngTerm_11 ?_
    refine lv_iload_n hx hb d_Model_youngTerm_14 rfl (lv_at hl 0 rfl) ?_
    obtain ⟨hi15, hM⟩ := gc_some hM
    refine g_iald C hP rfl hi15 d_Model_youngTerm_15 ?_
    refine lv_iconst (v := (1 : Int32)) hx hb d_Model_youngTerm_16 (by decide) ?_
    refine lv_icmp_ne (tgt := 31) hx hb d_Model_youngTerm_17 (by decide) (fun hc17 => ?_) (fun hc17 => ?_)
    · replace hM := gi_f hc17 hM
      exact t_Model_youngTerm_b31 C hM hR ls H locs (lv_sub hl [0] rfl) hP hS
    · replace hM := gi_t hc17 hM
      refine lv_aload_n hx hb d_Model_youngTerm_20 rfl (lv_at hl 1 rfl) ?_
      refine lv_bipush (v := (6 : Int32)) hx hb d_Model_youngTerm_21 (by decide) ?_
      refine lv_aload_n hx hb d_Model_youngTerm_23 rfl (lv_at hl 1 rfl) ?_
      refine g_getI C hP gl_DeskModel_150 rfl rfl d_Model_youngTerm_24 ?_
      obtain ⟨q27, hq27, hM⟩ := gb_some hM
      refine g_backI (g_runV (As := [.int (6 : Int32), .int (q1.2.1 42 22)]) C hP (c_Model_stop C.2.2.2.2.2.2.2.2.1 hq27) gi_Model_stop gm_Model_146 rfl rfl (by decide) (by decide) hl.1 rfl (Nat.le_of_ble_eq_true rfl) d_Model_youngTerm_27) hS (fun H locs hP hS => ?_)
      refine lv_pop hx hb d_Model_youngTerm_30 rfl ?_
      exact t_Model_youngTerm_b31 C hM hR ls H locs (lv_sub hl [0] rfl) hP hS
theorem c_Model_youngTerm {l : Launch} {cy : Nat → ClassId} {D : va_G} {ρ : Nat → Nat} {A : Nat → Prop} (hD : gD ρ A) {u : gSt} {z : (Int32 × gSt)} (hM : M_Model_youngTerm u = some z) : gCtI l y_Model_youngTerm prog_13_method_28_code 2 (some .int) 3 67 cy D ρ A [.ref (ρ 42)] u z.1 z.2 :=
  g_met (by decide) hD (Nat.le_of_ble_eq_true rfl) (fun p e s m below meth c ls X hl hP => t_Model_youngTerm X hM (fun pc ls H locs hd hP hS => g_iret X hP hS hd) ls _ [] hl hP va_S.rf)
end
section
variable {p : Program} {l : Launch} {e : Env} {R : Room} {s : State} {m : MethodId} {args : Array Value} {below : List Frame} {meth : Method} {c : Code} {Q : State → Prop} {H0 : Heap} {cells slots : Nat} {cy : Nat → ClassId} {D : va_G} {ρ : Nat → Nat} {A : Nat → Prop}
def y_Model_geneNext : MethodName := ⟨"TermDeskModel", "geneNext", "()I"⟩
theorem gi_Model_geneNext : gMi y_Model_geneNext prog_13_method_29_code 2 (some .int) 0 8 := ⟨(gWs_at 1249 (by decide +kernel) (by decide +kernel)), (gWs_at 1248 (by decide +kernel) (by decide +kernel)), (gWs_at 85 (by decide +kernel) (by decide +kernel)), (gWs_at 125 (by decide +kernel) (by decide +kernel)), ⟨by decide +kernel, by decide +kernel, by decide +kernel⟩, _, _, rfl⟩
theorem gm_Model_204 : gMk "TermDeskModel" 204 y_Model_geneNext := Or.inl (gWs_at 1246 (by decide +kernel) (by decide +kernel))
theorem d_Model_geneNext_0 : decode prog_13_method_29_code 0 = .ok (.aload_n 0, 1) := by decide +kernel
theorem d_Model_geneNext_1 : decode prog_13_method_29_code 1 = .ok (.invokevirtual 167, 3) := by decide +kernel
theorem d_Model_geneNext_4 : decode prog_13_method_29_code 4 = .ok (.ifCond .eq 10, 3) := by decide +kernel
theorem d_Model_geneNext_7 : decode prog_13_method_29_code 7 = .ok (.aload_n 0, 1) := by decide +kernel
theorem d_Model_geneNext_8 : decode prog_13_method_29_code 8 = .ok (.invokevirtual 171, 3) := by decide +kernel
theorem d_Model_geneNext_11 : decode prog_13_method_29_code 11 = .ok (.ifCond .ne 5, 3) := by decide +kernel
theorem d_Model_geneNext_14 : decode prog_13_method_29_code 14 = .ok (.iconst (-1), 1) := by decide +kernel
theorem d_Model_geneNext_15 : decode prog_13_method_29_code 15 = .ok (.ireturn, 1) := by decide +kernel
theorem d_Model_geneNext_16 : decode prog_13_method_29_code 16 = .ok (.aload_n 0, 1) := by decide +kernel
theorem d_Model_geneNext_17 : decode prog_13_method_29_code 17 = .ok (.invokevirtual 181, 3) := by decide +kernel
theorem d_Model_geneNext_20 : decode prog_13_method_29_code 20 = .ok (.istore_n 1, 1) := by decide +kernel
theorem d_Model_geneNext_21 : decode prog_13_method_29_code 21 = .ok (.iload_n 1, 1) := by decide +kernel
theorem d_Model_geneNext_22 : decode prog_13_method_29_code 22 = .ok (.iconst (-1), 1) := by decide +kernel
theorem d_Model_geneNext_23 : decode prog_13_method_29_code 23 = .ok (.if_icmp .ne 13, 3) := by decide +kernel
theorem d_Model_geneNext_26 : decode prog_13_method_29_code 26 = .ok (.aload_n 0, 1) := by decide +kernel
theorem d_Model_geneNext_27 : decode prog_13_method_29_code 27 = .ok (.iconst 3, 1) := by decide +kernel
theorem d_Model_geneNext_28 : decode prog_13_method_29_code 28 = .ok (.aload_n 0, 1) := by decide +kernel
theorem d_Model_geneNext_29 : decode prog_13_method_29_code 29 = .ok (.getfield 150, 3) := by decide +kernel
theorem d_Model_geneNext_32 : decode prog_13_method_29_code 32 = .ok (.invokevirtual 146, 3) := by decide +kernel
theorem d_Model_geneNext_35 : decode prog_13_method_29_code 35 = .ok (.pop, 1) := by decide +kernel
theorem d_Model_geneNext_36 : decode prog_13_method_29_code 36 = .ok (.iload_n 1, 1) := by decide +kernel
theorem d_Model_geneNext_37 : decode prog_13_method_29_code 37 = .ok (.ireturn, 1) := by decide +kernel
noncomputable def M_Model_geneNext_b14 (u : gSt) : Option ((Int32 × gSt)) :=
  some ((-1 : Int32), u)
set_option maxHeartbeats 4000000 in
set_option maxRecDepth 100000 in
theorem t_Model_geneNext_b14 (C : gX "TermDeskModel" prog_13_method_29_code 2 (some .int) 2 46 R cells slots cy D ρ A p s m args meth c) {u : gSt} {z : (Int32 × gSt)} (hM : M_Model_geneNext_b14 u = some z) (hR : gRtI p l e R s m args below meth c Q H0 cells slots cy D ρ A prog_13_method_29_code z.1 z.2) : gAt p l e R s m args below meth c Q H0 cells slots cy D ρ A 2 14 [] [] u := by
  intro ls H locs hl hP hS
  have hx := C.1
  have hb := C.2.1
  unfold M_Model_geneNext_b14 at hM
  refine lv_iconst (v := (-1 : Int32)) hx hb d_Model_geneNext_14 (by decide) ?_
  obtain rfl := Option.some.inj hM
  exact hR _ ls H locs d_Model_geneNext_15 hP hS
noncomputable def M_Model_geneNext_b36 (x1 : Int32) (u : gSt) : Option ((Int32 × gSt)) :=
  some (x1, u)
set_option maxHeartbeats 4000000 in
set_option maxRecDepth 100000 in
theorem t_Model_geneNext_b36 (C : gX "TermDeskModel" prog_13_method_29_code 2 (some .int) 2 46 R cells slots cy D ρ A p s m args meth c) {x1 : Int32} {u : gSt} {z : (Int32 × gSt)} (hM : M_Model_geneNext_b36 x1 u = some z) (hR : gRtI p l e R s m args below meth c Q H0 cells slots cy D ρ A prog_13_method_29_code z.1 z.2) : gAt p l e R s m args below meth c Q H0 cells slots cy D ρ A 2 36 [(1, .int x1)] [] u := by
  intro ls H locs hl hP hS
  have hx := C.1
  have hb := C.2.1
  unfold M_Model_geneNext_b36 at hM
  refine lv_iload_n hx hb d_Model_geneNext_36 rfl (lv_at hl 0 rfl) ?_
  obtain rfl := Option.some.inj hM
  exact hR _ ls H locs d_Model_geneNext_37 hP hS
noncomputable def M_Model_geneNext (u : gSt) : Option ((Int32 × gSt)) :=
  (M_Model_next u).bind fun q1 =>
  if q1.1 = (0 : Int32) then
    (M_Model_geneNext_b14 q1.2)
  else
    ((M_Model_isName q1.2).bind fun q8 =>
    if q8.1 = (0 : Int32) then
      (M_Model_geneNext_b14 q8.2)
    else
      ((M_Model_geneOf q8.2).bind fun q17 =>
      if q17.1 = (-1 : Int32) then
        ((M_Model_stop (3 : Int32) (q17.2.1 42 22) q17.2).bind fun q32 =>
        M_Model_geneNext_b36 q17.1 q32.2)
      else
        (M_Model_geneNext_b36 q17.1 q17.2)))
set_option maxHeartbeats 4000000 in
set_option maxRecDepth 100000 in
theorem t_Model_geneNext (C : gX "TermDeskModel" prog_13_method_29_code 2 (some .int) 2 46 R cells slots cy D ρ A p s m args meth c) {u : gSt} {z : (Int32 × gSt)} (hM : M_Model_geneNext u = some z) (hR : gRtI p l e R s m args below meth c Q H0 cells slots cy D ρ A prog_13_method_29_code z.1 z.2) : gAt p l e R s m args below meth c Q H0 cells slots cy D ρ A 2 0 [(0, .ref (ρ 42))] [] u := by
  intro ls H locs hl hP hS
  have hx := C.1
  have hb := C.2.1
  unfold M_Model_geneNext at hM
  refine lv_aload_n hx hb d_Model_geneNext_0 rfl (lv_at hl 0 rfl) ?_
  obtain ⟨q1, hq1, hM⟩ := gb_some hM
  refine g_backI (g_runV (As := []) C hP (c_Model_next C.2.2.2.2.2.2.2.2.1 hq1) gi_Model_next gm_Model_167 rfl rfl (by decide) (by decide) hl.1 rfl (Nat.le_of_ble_eq_true rfl) d_Model_geneNext_1) hS (fun H locs hP hS => ?_)
  refine lv_if_eq (tgt := 14) hx hb d_Model_geneNext_4 (by decide) (fun hc4 => ?_) (fun hc4 => ?_)
  · replace hM := gi_t hc4 hM
    exact t_Model_geneNext_b14 C hM hR ls H locs (lv_sub hl [] rfl) hP hS
  · replace hM := gi_f hc4 hM
    refine lv_aload_n hx hb d_Model_geneNext_7 rfl (lv_at hl 0 rfl) ?_
    obtain ⟨q8, hq8, hM⟩ := gb_some hM
    refine g_backI (g_runV (As := []) C hP (c_Model_isName C.2.2.2.2.2.2.2.2.1 hq8) gi_Model_isName gm_Model_171 rfl rfl (by decide) (by decide) hl.1 rfl (Nat.le_of_ble_eq_true rfl) d_Model_geneNext_8) hS (fun H locs hP hS => ?_)
    refine lv_if_ne (tgt := 16) hx hb d_Model_geneNext_11 (by decide) (fun hc11 => ?_) (fun hc11 => ?_)
    · replace hM := gi_f hc11 hM
      refine lv_aload_n hx hb d_Model_geneNext_16 rfl (lv_at hl 0 rfl) ?_
      obtain ⟨q17, hq17, hM⟩ := gb_some hM
      refine g_backI (g_runV (As := []) C hP (c_Model_geneOf C.2.2.2.2.2.2.2.2.1 hq17) gi_Model_geneOf gm_Model_181 rfl rfl (by decide) (by decide) hl.1 rfl (Nat.le_of_ble_eq_true rfl) d_Model_geneNext_17) hS (fun H locs hP hS => ?_)
      refine lv_istore_n (lv' := [(1, .int q17.1), (0, .ref (ρ 42))]) hx hb d_Model_geneNext_20 rfl hl (by decide) rfl (fun ls hl => ?_)
      refine lv_iload_n hx hb d_Model_geneNext_21 rfl (lv_at hl 0 rfl) ?_
      refine lv_iconst (v := (-1 : Int32)) hx hb d_Model_geneNext_22 (by decide) ?_
      refine lv_icmp_ne (tgt := 36) hx hb d_Model_geneNext_23 (by decide) (fun hc23 => ?_) (fun hc23 => ?_)
      · replace hM := gi_f hc23 hM
        exact t_Model_geneNext_b36 C hM hR ls H locs (lv_sub hl [0] rfl) hP hS
      · replace hM := gi_t hc23 hM
        refine lv_aload_n hx hb d_Model_geneNext_26 rfl (lv_at hl 1 rfl) ?_
        refine lv_iconst (v := (3 : Int32)) hx hb d_Model_geneNext_27 (by decide) ?_
        refine lv_aload_n hx hb d_Model_geneNext_28 rfl (lv_at hl 1 rfl) ?_
        refine g_getI C hP gl_DeskModel_150 rfl rfl d_Model_geneNext_29 ?_
        obtain ⟨q32, hq32, hM⟩ := gb_some hM
        refine g_backI (g_runV (As := [.int (3 : Int32), .int (q17.2.1 42 22)]) C hP (c_Model_stop C.2.2.2.2.2.2.2.2.1 hq32) gi_Model_stop gm_Model_146 rfl rfl (by decide) (by decide) hl.1 rfl (Nat.le_of_ble_eq_true rfl) d_Model_geneNext_32) hS (fun H locs hP hS => ?_)
        refine lv_pop hx hb d_Model_geneNext_35 rfl ?_
        exact t_Model_geneNext_b36 C hM hR ls H locs (lv_sub hl [0] rfl) hP hS
    · replace hM := gi_t hc11 hM
      exact t_Model_geneNext_b14 C hM hR ls H locs (lv_sub hl [] rfl) hP hS
theorem c_Model_geneNext {l : Launch} {cy : Nat → ClassId} {D : va_G} {ρ : Nat → Nat} {A : Nat → Prop} (hD : gD ρ A) {u : gSt} {z : (Int32 × gSt)} (hM : M_Model_geneNext u = some z) : gCtI l y_Model_geneNext prog_13_method_29_code 2 (some .int) 2 46 cy D ρ A [.ref (ρ 42)] u z.1 z.2 :=
  g_met (by decide) hD (Nat.le_of_ble_eq_true rfl) (fun p e s m below meth c ls X hl hP => t_Model_geneNext X hM (fun pc ls H locs hd hP hS => g_iret X hP hS hd) ls _ [] hl hP va_S.rf)
end
section
variable {p : Program} {l : Launch} {e : Env} {R : Room} {s : State} {m : MethodId} {args : Array Value} {below : List Frame} {meth : Method} {c : Code} {Q : State → Prop} {H0 : Heap} {cells slots : Nat} {cy : Nat → ClassId} {D : va_G} {ρ : Nat → Nat} {A : Nat → Prop}
def y_Model_ends : MethodName := ⟨"TermDeskModel", "ends", "(IZ)Z"⟩
theorem gi_Model_ends : gMi y_Model_ends prog_13_method_30_code 3 (some .boolean) 2 8 := ⟨(gWs_at 1213 (by decide +kernel) (by decide +kernel)), (gWs_at 1212 (by decide +kernel) (by decide +kernel)), (gWs_at 76 (by decide +kernel) (by decide +kernel)), (gWs_at 125 (by decide +kernel) (by decide +kernel)), ⟨by decide +kernel, by decide +kernel, by decide +kernel⟩, _, _, rfl⟩
theorem gm_Model_187 : gMk "TermDeskModel" 187 y_Model_ends := Or.inl (gWs_at 1210 (by decide +kernel) (by decide +kernel))
theorem d_Model_ends_0 : decode prog_13_method_30_code 0 = .ok (.aload_n 0, 1) := by decide +kernel
theorem d_Model_ends_1 : decode prog_13_method_30_code 1 = .ok (.getfield 137, 3) := by decide +kernel
theorem d_Model_ends_4 : decode prog_13_method_30_code 4 = .ok (.ifCond .eq 5, 3) := by decide +kernel
theorem d_Model_ends_7 : decode prog_13_method_30_code 7 = .ok (.iconst 0, 1) := by decide +kernel
theorem d_Model_ends_8 : decode prog_13_method_30_code 8 = .ok (.ireturn, 1) := by decide +kernel
theorem d_Model_ends_9 : decode prog_13_method_30_code 9 = .ok (.aload_n 0, 1) := by decide +kernel
theorem d_Model_ends_10 : decode prog_13_method_30_code 10 = .ok (.getfield 140, 3) := by decide +kernel
theorem d_Model_ends_13 : decode prog_13_method_30_code 13 = .ok (.aload_n 0, 1) := by decide +kernel
theorem d_Model_ends_14 : decode prog_13_method_30_code 14 = .ok (.getfield 143, 3) := by decide +kernel
theorem d_Model_ends_17 : decode prog_13_method_30_code 17 = .ok (.if_icmp .ge 15, 3) := by decide +kernel
theorem d_Model_ends_20 : decode prog_13_method_30_code 20 = .ok (.aload_n 0, 1) := by decide +kernel
theorem d_Model_ends_21 : decode prog_13_method_30_code 21 = .ok (.iconst 1, 1) := by decide +kernel
theorem d_Model_ends_22 : decode prog_13_method_30_code 22 = .ok (.aload_n 0, 1) := by decide +kernel
theorem d_Model_ends_23 : decode prog_13_method_30_code 23 = .ok (.getfield 140, 3) := by decide +kernel
theorem d_Model_ends_26 : decode prog_13_method_30_code 26 = .ok (.iconst 1, 1) := by decide +kernel
theorem d_Model_ends_27 : decode prog_13_method_30_code 27 = .ok (.iadd, 1) := by decide +kernel
theorem d_Model_ends_28 : decode prog_13_method_30_code 28 = .ok (.invokevirtual 146, 3) := by decide +kernel
theorem d_Model_ends_31 : decode prog_13_method_30_code 31 = .ok (.ireturn, 1) := by decide +kernel
theorem d_Model_ends_32 : decode prog_13_method_30_code 32 = .ok (.iload_n 2, 1) := by decide +kernel
theorem d_Model_ends_33 : decode prog_13_method_30_code 33 = .ok (.ifCond .ne 13, 3) := by decide +kernel
theorem d_Model_ends_36 : decode prog_13_method_30_code 36 = .ok (.aload_n 0, 1) := by decide +kernel
theorem d_Model_ends_37 : decode prog_13_method_30_code 37 = .ok (.bipush 7, 2) := by decide +kernel
theorem d_Model_ends_39 : decode prog_13_method_30_code 39 = .ok (.iload_n 1, 1) := by decide +kernel
theorem d_Model_ends_40 : decode prog_13_method_30_code 40 = .ok (.invokevirtual 146, 3) := by decide +kernel
theorem d_Model_ends_43 : decode prog_13_method_30_code 43 = .ok (.ifCond .eq 7, 3) := by decide +kernel
theorem d_Model_ends_46 : decode prog_13_method_30_code 46 = .ok (.iconst 1, 1) := by decide +kernel
theorem d_Model_ends_47 : decode prog_13_method_30_code 47 = .ok (.goto 4, 3) := by decide +kernel
theorem d_Model_ends_50 : decode prog_13_method_30_code 50 = .ok (.iconst 0, 1) := by decide +kernel
theorem d_Model_ends_51 : decode prog_13_method_30_code 51 = .ok (.ireturn, 1) := by decide +kernel
noncomputable def M_Model_ends_b51 (s0 : Int32) (u : gSt) : Option ((Int32 × gSt)) :=
  gc (gZ s0) <| some (s0, u)
set_option maxHeartbeats 4000000 in
set_option maxRecDepth 100000 in
theorem t_Model_ends_b51 (C : gX "TermDeskModel" prog_13_method_30_code 3 (some .boolean) 1 22 R cells slots cy D ρ A p s m args meth c) {s0 : Int32} {u : gSt} {z : (Int32 × gSt)} (hM : M_Model_ends_b51 s0 u = some z) (hR : gRtZ p l e R s m args below meth c Q H0 cells slots cy D ρ A prog_13_method_30_code z.1 z.2) : gAt p l e R s m args below meth c Q H0 cells slots cy D ρ A 3 51 [] [.int s0] u := by
  intro ls H locs hl hP hS
  have hx := C.1
  have hb := C.2.1
  unfold M_Model_ends_b51 at hM
  obtain ⟨hz51, hM⟩ := gc_some hM
  obtain rfl := Option.some.inj hM
  exact hR _ ls H locs hz51 d_Model_ends_51 hP hS
noncomputable def M_Model_ends_b46 (u : gSt) : Option ((Int32 × gSt)) :=
  M_Model_ends_b51 (1 : Int32) u
set_option maxHeartbeats 4000000 in
set_option maxRecDepth 100000 in
theorem t_Model_ends_b46 (C : gX "TermDeskModel" prog_13_method_30_code 3 (some .boolean) 1 22 R cells slots cy D ρ A p s m args meth c) {u : gSt} {z : (Int32 × gSt)} (hM : M_Model_ends_b46 u = some z) (hR : gRtZ p l e R s m args below meth c Q H0 cells slots cy D ρ A prog_13_method_30_code z.1 z.2) : gAt p l e R s m args below meth c Q H0 cells slots cy D ρ A 3 46 [] [] u := by
  intro ls H locs hl hP hS
  have hx := C.1
  have hb := C.2.1
  unfold M_Model_ends_b46 at hM
  refine lv_iconst (v := (1 : Int32)) hx hb d_Model_ends_46 (by decide) ?_
  refine lv_goto (tgt := 51) hx hb d_Model_ends_47 (by decide) ?_
  exact t_Model_ends_b51 C hM hR ls H locs (lv_sub hl [] rfl) hP hS
noncomputable def M_Model_ends (x1 : Int32) (x2 : Int32) (u : gSt) : Option ((Int32 × gSt)) :=
  if (u.1 42 2) = (0 : Int32) then
    (if (u.1 42 24) ≤ (u.1 42 23) then
      (if x2 = (0 : Int32) then
        ((M_Model_stop (7 : Int32) x1 u).bind fun q40 =>
        if q40.1 = (0 : Int32) then
          (M_Model_ends_b51 (0 : Int32) q40.2)
        else
          (M_Model_ends_b46 q40.2))
      else
        (M_Model_ends_b46 u))
    else
      ((M_Model_stop (1 : Int32) ((u.1 42 23) + (1 : Int32)) u).bind fun q28 =>
      gc (gZ q28.1) <| some (q28.1, q28.2)))
  else
    (some ((0 : Int32), u))
set_option maxHeartbeats 4000000 in
set_option maxRecDepth 100000 in
theorem t_Model_ends (C : gX "TermDeskModel" prog_13_method_30_code 3 (some .boolean) 1 22 R cells slots cy D ρ A p s m args meth c) {x1 : Int32} {x2 : Int32} {u : gSt} {z : (Int32 × gSt)} (hM : M_Model_ends x1 x2 u = some z) (hR : gRtZ p l e R s m args below meth c Q H0 cells slots cy D ρ A prog_13_method_30_code z.1 z.2) : gAt p l e R s m args below meth c Q H0 cells slots cy D ρ A 3 0 [(0, .ref (ρ 42)), (1, .int x1), (2, .int x2)] [] u := by
  intro ls H locs hl hP hS
  have hx := C.1
  have hb := C.2.1
  unfold M_Model_ends at hM
  refine lv_aload_n hx hb d_Model_ends_0 rfl (lv_at hl 0 rfl) ?_
  refine g_getI C hP gl_DeskModel_137 rfl rfl d_Model_ends_1 ?_
  refine lv_if_eq (tgt := 9) hx hb d_Model_ends_4 (by decide) (fun hc4 => ?_) (fun hc4 => ?_)
  · replace hM := gi_t hc4 hM
    refine lv_aload_n hx hb d_Model_ends_9 rfl (lv_at hl 0 rfl) ?_
    refine g_getI C hP gl_DeskModel_140 rfl rfl d_Model_ends_10 ?_
    refine lv_aload_n hx hb d_Model_ends_13 rfl (lv_at hl 0 rfl) ?_
    refine g_getI C hP gl_DeskModel_143 rfl rfl d_Model_ends_14 ?_
    refine lv_icmp_ge (tgt := 32) hx hb d_Model_ends_17 (by decide) (fun hc17 => ?_) (fun hc17 => ?_)
    · replace hM := gi_t hc17 hM
      refine lv_iload_n hx hb d_Model_ends_32 rfl (lv_at hl 2 rfl) ?_
      refine lv_if_ne (tgt := 46) hx hb d_Model_ends_33 (by decide) (fun hc33 => ?_) (fun hc33 => ?_)
      · replace hM := gi_f hc33 hM
        exact t_Model_ends_b46 C hM hR ls H locs (lv_sub hl [] rfl) hP hS
      · replace hM := gi_t hc33 hM
        refine lv_aload_n hx hb d_Model_ends_36 rfl (lv_at hl 0 rfl) ?_
        refine lv_bipush (v := (7 : Int32)) hx hb d_Model_ends_37 (by decide) ?_
        refine lv_iload_n hx hb d_Model_ends_39 rfl (lv_at hl 1 rfl) ?_
        obtain ⟨q40, hq40, hM⟩ := gb_some hM
        refine g_backI (g_runV (As := [.int (7 : Int32), .int x1]) C hP (c_Model_stop C.2.2.2.2.2.2.2.2.1 hq40) gi_Model_stop gm_Model_146 rfl rfl (by decide) (by decide) hl.1 rfl (Nat.le_of_ble_eq_true rfl) d_Model_ends_40) hS (fun H locs hP hS => ?_)
        refine lv_if_eq (tgt := 50) hx hb d_Model_ends_43 (by decide) (fun hc43 => ?_) (fun hc43 => ?_)
        · replace hM := gi_t hc43 hM
          refine lv_iconst (v := (0 : Int32)) hx hb d_Model_ends_50 (by decide) ?_
          exact t_Model_ends_b51 C hM hR ls H locs (lv_sub hl [] rfl) hP hS
        · replace hM := gi_f hc43 hM
          exact t_Model_ends_b46 C hM hR ls H locs (lv_sub hl [] rfl) hP hS
    · replace hM := gi_f hc17 hM
      refine lv_aload_n hx hb d_Model_ends_20 rfl (lv_at hl 0 rfl) ?_
      refine lv_iconst (v := (1 : Int32)) hx hb d_Model_ends_21 (by decide) ?_
      refine lv_aload_n hx hb d_Model_ends_22 rfl (lv_at hl 0 rfl) ?_
      refine g_getI C hP gl_DeskModel_140 rfl rfl d_Model_ends_23 ?_
      refine lv_iconst (v := (1 : Int32)) hx hb d_Model_ends_26 (by decide) ?_
      refine lv_iadd hx hb d_Model_ends_27 ?_
      obtain ⟨q28, hq28, hM⟩ := gb_some hM
      refine g_backI (g_runV (As := [.int (1 : Int32), .int ((u.1 42 23) + (1 : Int32))]) C hP (c_Model_stop C.2.2.2.2.2.2.2.2.1 hq28) gi_Model_stop gm_Model_146 rfl rfl (by decide) (by decide) hl.1 rfl (Nat.le_of_ble_eq_true rfl) d_Model_ends_28) hS (fun H locs hP hS => ?_)
      obtain ⟨hz31, hM⟩ := gc_some hM
      obtain rfl := Option.some.inj hM
      exact hR _ ls H locs hz31 d_Model_ends_31 hP hS
  · replace hM := gi_f hc4 hM
    refine lv_iconst (v := (0 : Int32)) hx hb d_Model_ends_7 (by decide) ?_
    obtain rfl := Option.some.inj hM
    exact hR _ ls H locs rfl d_Model_ends_8 hP hS
theorem c_Model_ends {l : Launch} {cy : Nat → ClassId} {D : va_G} {ρ : Nat → Nat} {A : Nat → Prop} (hD : gD ρ A) {x1 : Int32} {x2 : Int32} {u : gSt} {z : (Int32 × gSt)} (hM : M_Model_ends x1 x2 u = some z) : gCtI l y_Model_ends prog_13_method_30_code 3 (some .boolean) 1 22 cy D ρ A [.ref (ρ 42), .int x1, .int x2] u z.1 z.2 :=
  g_met (by decide) hD (Nat.le_of_ble_eq_true rfl) (fun p e s m below meth c ls X hl hP => t_Model_ends X hM (fun pc ls H locs hz hd hP hS => g_zret X hP hS hz hd) ls _ [] hl hP va_S.rf)
end
section
variable {p : Program} {l : Launch} {e : Env} {R : Room} {s : State} {m : MethodId} {args : Array Value} {below : List Frame} {meth : Method} {c : Code} {Q : State → Prop} {H0 : Heap} {cells slots : Nat} {cy : Nat → ClassId} {D : va_G} {ρ : Nat → Nat} {A : Nat → Prop}
def y_Model_begins : MethodName := ⟨"TermDeskModel", "begins", "(IIIIIII)Z"⟩
theorem gi_Model_begins : gMi y_Model_begins prog_13_method_31_code 9 (some .boolean) 7 8 := ⟨(gWs_at 1182 (by decide +kernel) (by decide +kernel)), (gWs_at 1181 (by decide +kernel) (by decide +kernel)), (gWs_at 69 (by decide +kernel) (by decide +kernel)), (gWs_at 125 (by decide +kernel) (by decide +kernel)), ⟨by decide +kernel, by decide +kernel, by decide +kernel⟩, _, _, rfl⟩
theorem gm_Model_210 : gMk "TermDeskModel" 210 y_Model_begins := Or.inl (gWs_at 1179 (by decide +kernel) (by decide +kernel))
theorem d_Model_begins_0 : decode prog_13_method_31_code 0 = .ok (.iload 7, 2) := by decide +kernel
theorem d_Model_begins_2 : decode prog_13_method_31_code 2 = .ok (.ifCond .le 7, 3) := by decide +kernel
theorem d_Model_begins_5 : decode prog_13_method_31_code 5 = .ok (.iconst 5, 1) := by decide +kernel
theorem d_Model_begins_6 : decode prog_13_method_31_code 6 = .ok (.goto 13, 3) := by decide +kernel
theorem d_Model_begins_9 : decode prog_13_method_31_code 9 = .ok (.iload 6, 2) := by decide +kernel
theorem d_Model_begins_11 : decode prog_13_method_31_code 11 = .ok (.ifCond .le 7, 3) := by decide +kernel
theorem d_Model_begins_14 : decode prog_13_method_31_code 14 = .ok (.iconst 4, 1) := by decide +kernel
theorem d_Model_begins_15 : decode prog_13_method_31_code 15 = .ok (.goto 4, 3) := by decide +kernel
theorem d_Model_begins_18 : decode prog_13_method_31_code 18 = .ok (.iconst 3, 1) := by decide +kernel
theorem d_Model_begins_19 : decode prog_13_method_31_code 19 = .ok (.istore 8, 2) := by decide +kernel
theorem d_Model_begins_21 : decode prog_13_method_31_code 21 = .ok (.iload_n 2, 1) := by decide +kernel
theorem d_Model_begins_22 : decode prog_13_method_31_code 22 = .ok (.iload_n 1, 1) := by decide +kernel
theorem d_Model_begins_23 : decode prog_13_method_31_code 23 = .ok (.isub, 1) := by decide +kernel
theorem d_Model_begins_24 : decode prog_13_method_31_code 24 = .ok (.iload 8, 2) := by decide +kernel
theorem d_Model_begins_26 : decode prog_13_method_31_code 26 = .ok (.if_icmp .ne 81, 3) := by decide +kernel
theorem d_Model_begins_29 : decode prog_13_method_31_code 29 = .ok (.aload_n 0, 1) := by decide +kernel
theorem d_Model_begins_30 : decode prog_13_method_31_code 30 = .ok (.getfield 8, 3) := by decide +kernel
theorem d_Model_begins_33 : decode prog_13_method_31_code 33 = .ok (.iload_n 1, 1) := by decide +kernel
theorem d_Model_begins_34 : decode prog_13_method_31_code 34 = .ok (.baload, 1) := by decide +kernel
theorem d_Model_begins_35 : decode prog_13_method_31_code 35 = .ok (.iload_n 3, 1) := by decide +kernel
theorem d_Model_begins_36 : decode prog_13_method_31_code 36 = .ok (.if_icmp .ne 71, 3) := by decide +kernel
theorem d_Model_begins_39 : decode prog_13_method_31_code 39 = .ok (.aload_n 0, 1) := by decide +kernel
theorem d_Model_begins_40 : decode prog_13_method_31_code 40 = .ok (.getfield 8, 3) := by decide +kernel
theorem d_Model_begins_43 : decode prog_13_method_31_code 43 = .ok (.iload_n 1, 1) := by decide +kernel
theorem d_Model_begins_44 : decode prog_13_method_31_code 44 = .ok (.iconst 1, 1) := by decide +kernel
theorem d_Model_begins_45 : decode prog_13_method_31_code 45 = .ok (.iadd, 1) := by decide +kernel
theorem d_Model_begins_46 : decode prog_13_method_31_code 46 = .ok (.baload, 1) := by decide +kernel
theorem d_Model_begins_47 : decode prog_13_method_31_code 47 = .ok (.iload 4, 2) := by decide +kernel
theorem d_Model_begins_49 : decode prog_13_method_31_code 49 = .ok (.if_icmp .ne 58, 3) := by decide +kernel
theorem d_Model_begins_52 : decode prog_13_method_31_code 52 = .ok (.aload_n 0, 1) := by decide +kernel
theorem d_Model_begins_53 : decode prog_13_method_31_code 53 = .ok (.getfield 8, 3) := by decide +kernel
theorem d_Model_begins_56 : decode prog_13_method_31_code 56 = .ok (.iload_n 1, 1) := by decide +kernel
theorem d_Model_begins_57 : decode prog_13_method_31_code 57 = .ok (.iconst 2, 1) := by decide +kernel
theorem d_Model_begins_58 : decode prog_13_method_31_code 58 = .ok (.iadd, 1) := by decide +kernel
theorem d_Model_begins_59 : decode prog_13_method_31_code 59 = .ok (.baload, 1) := by decide +kernel
theorem d_Model_begins_60 : decode prog_13_method_31_code 60 = .ok (.iload 5, 2) := by decide +kernel
theorem d_Model_begins_62 : decode prog_13_method_31_code 62 = .ok (.if_icmp .ne 45, 3) := by decide +kernel
theorem d_Model_begins_65 : decode prog_13_method_31_code 65 = .ok (.iload 8, 2) := by decide +kernel
theorem d_Model_begins_67 : decode prog_13_method_31_code 67 = .ok (.iconst 4, 1) := by decide +kernel
theorem d_Model_begins_68 : decode prog_13_method_31_code 68 = .ok (.if_icmp .lt 16, 3) := by decide +kernel
theorem d_Model_begins_71 : decode prog_13_method_31_code 71 = .ok (.aload_n 0, 1) := by decide +kernel
theorem d_Model_begins_72 : decode prog_13_method_31_code 72 = .ok (.getfield 8, 3) := by decide +kernel
theorem d_Model_begins_75 : decode prog_13_method_31_code 75 = .ok (.iload_n 1, 1) := by decide +kernel
theorem d_Model_begins_76 : decode prog_13_method_31_code 76 = .ok (.iconst 3, 1) := by decide +kernel
theorem d_Model_begins_77 : decode prog_13_method_31_code 77 = .ok (.iadd, 1) := by decide +kernel
theorem d_Model_begins_78 : decode prog_13_method_31_code 78 = .ok (.baload, 1) := by decide +kernel
theorem d_Model_begins_79 : decode prog_13_method_31_code 79 = .ok (.iload 6, 2) := by decide +kernel
theorem d_Model_begins_81 : decode prog_13_method_31_code 81 = .ok (.if_icmp .ne 26, 3) := by decide +kernel
theorem d_Model_begins_84 : decode prog_13_method_31_code 84 = .ok (.iload 8, 2) := by decide +kernel
theorem d_Model_begins_86 : decode prog_13_method_31_code 86 = .ok (.iconst 5, 1) := by decide +kernel
theorem d_Model_begins_87 : decode prog_13_method_31_code 87 = .ok (.if_icmp .lt 16, 3) := by decide +kernel
theorem d_Model_begins_90 : decode prog_13_method_31_code 90 = .ok (.aload_n 0, 1) := by decide +kernel
theorem d_Model_begins_91 : decode prog_13_method_31_code 91 = .ok (.getfield 8, 3) := by decide +kernel
theorem d_Model_begins_94 : decode prog_13_method_31_code 94 = .ok (.iload_n 1, 1) := by decide +kernel
theorem d_Model_begins_95 : decode prog_13_method_31_code 95 = .ok (.iconst 4, 1) := by decide +kernel
theorem d_Model_begins_96 : decode prog_13_method_31_code 96 = .ok (.iadd, 1) := by decide +kernel
theorem d_Model_begins_97 : decode prog_13_method_31_code 97 = .ok (.baload, 1) := by decide +kernel
theorem d_Model_begins_98 : decode prog_13_method_31_code 98 = .ok (.iload 7, 2) := by decide +kernel
theorem d_Model_begins_100 : decode prog_13_method_31_code 100 = .ok (.if_icmp .ne 7, 3) := by decide +kernel
theorem d_Model_begins_103 : decode prog_13_method_31_code 103 = .ok (.iconst 1, 1) := by decide +kernel
theorem d_Model_begins_104 : decode prog_13_method_31_code 104 = .ok (.goto 4, 3) := by decide +kernel
theorem d_Model_begins_107 : decode prog_13_method_31_code 107 = .ok (.iconst 0, 1) := by decide +kernel
theorem d_Model_begins_108 : decode prog_13_method_31_code 108 = .ok (.ireturn, 1) := by decide +kernel
noncomputable def M_Model_begins_b108 (s0 : Int32) (u : gSt) : Option ((Int32 × gSt)) :=
  gc (gZ s0) <| some (s0, u)
set_option maxHeartbeats 4000000 in
set_option maxRecDepth 100000 in
theorem t_Model_begins_b108 (C : gX "TermDeskModel" prog_13_method_31_code 9 (some .boolean) 0 0 R cells slots cy D ρ A p s m args meth c) {s0 : Int32} {u : gSt} {z : (Int32 × gSt)} (hM : M_Model_begins_b108 s0 u = some z) (hR : gRtZ p l e R s m args below meth c Q H0 cells slots cy D ρ A prog_13_method_31_code z.1 z.2) : gAt p l e R s m args below meth c Q H0 cells slots cy D ρ A 9 108 [] [.int s0] u := by
  intro ls H locs hl hP hS
  have hx := C.1
  have hb := C.2.1
  unfold M_Model_begins_b108 at hM
  obtain ⟨hz108, hM⟩ := gc_some hM
  obtain rfl := Option.some.inj hM
  exact hR _ ls H locs hz108 d_Model_begins_108 hP hS
noncomputable def M_Model_begins_b107 (u : gSt) : Option ((Int32 × gSt)) :=
  M_Model_begins_b108 (0 : Int32) u
set_option maxHeartbeats 4000000 in
set_option maxRecDepth 100000 in
theorem t_Model_begins_b107 (C : gX "TermDeskModel" prog_13_method_31_code 9 (some .boolean) 0 0 R cells slots cy D ρ A p s m args meth c) {u : gSt} {z : (Int32 × gSt)} (hM : M_Model_begins_b107 u = some z) (hR : gRtZ p l e R s m args below meth c Q H0 cells slots cy D ρ A prog_13_method_31_code z.1 z.2) : gAt p l e R s m args below meth c Q H0 cells slots cy D ρ A 9 107 [] [] u := by
  intro ls H locs hl hP hS
  have hx := C.1
  have hb := C.2.1
  unfold M_Model_begins_b107 at hM
  refine lv_iconst (v := (0 : Int32)) hx hb d_Model_begins_107 (by decide) ?_
  exact t_Model_begins_b108 C hM hR ls H locs (lv_sub hl [] rfl) hP hS
noncomputable def M_Model_begins_b103 (u : gSt) : Option ((Int32 × gSt)) :=
  M_Model_begins_b108 (1 : Int32) u
set_option maxHeartbeats 4000000 in
set_option maxRecDepth 100000 in
theorem t_Model_begins_b103 (C : gX "TermDeskModel" prog_13_method_31_code 9 (some .boolean) 0 0 R cells slots cy D ρ A p s m args meth c) {u : gSt} {z : (Int32 × gSt)} (hM : M_Model_begins_b103 u = some z) (hR : gRtZ p l e R s m args below meth c Q H0 cells slots cy D ρ A prog_13_method_31_code z.1 z.2) : gAt p l e R s m args below meth c Q H0 cells slots cy D ρ A 9 103 [] [] u := by
  intro ls H locs hl hP hS
  have hx := C.1
  have hb := C.2.1
  unfold M_Model_begins_b103 at hM
  refine lv_iconst (v := (1 : Int32)) hx hb d_Model_begins_103 (by decide) ?_
  refine lv_goto (tgt := 108) hx hb d_Model_begins_104 (by decide) ?_
  exact t_Model_begins_b108 C hM hR ls H locs (lv_sub hl [] rfl) hP hS
noncomputable def M_Model_begins_b84 (x1 : Int32) (x7 : Int32) (x8 : Int32) (u : gSt) : Option ((Int32 × gSt)) :=
  if x8 < (5 : Int32) then
    (M_Model_begins_b103 u)
  else
    (gc (gIn (x1 + (4 : Int32)) (gLen 43)) <| if (u.2.2.1 43 (gIx (x1 + (4 : Int32)))) = x7 then
      (M_Model_begins_b103 u)
    else
      (M_Model_begins_b107 u))
set_option maxHeartbeats 4000000 in
set_option maxRecDepth 100000 in
theorem t_Model_begins_b84 (C : gX "TermDeskModel" prog_13_method_31_code 9 (some .boolean) 0 0 R cells slots cy D ρ A p s m args meth c) {x1 : Int32} {x7 : Int32} {x8 : Int32} {u : gSt} {z : (Int32 × gSt)} (hM : M_Model_begins_b84 x1 x7 x8 u = some z) (hR : gRtZ p l e R s m args below meth c Q H0 cells slots cy D ρ A prog_13_method_31_code z.1 z.2) : gAt p l e R s m args below meth c Q H0 cells slots cy D ρ A 9 84 [(0, .ref (ρ 42)), (1, .int x1), (7, .int x7), (8, .int x8)] [] u := by
  intro ls H locs hl hP hS
  have hx := C.1
  have hb := C.2.1
  unfold M_Model_begins_b84 at hM
  refine lv_iload hx hb d_Model_begins_84 (lv_at hl 3 rfl) ?_
  refine lv_iconst (v := (5 : Int32)) hx hb d_Model_begins_86 (by decide) ?_
  refine lv_icmp_lt (tgt := 103) hx hb d_Model_begins_87 (by decide) (fun hc87 => ?_) (fun hc87 => ?_)
  · replace hM := gi_t hc87 hM
    exact t_Model_begins_b103 C hM hR ls H locs (lv_sub hl [] rfl) hP hS
  · replace hM := gi_f hc87 hM
    refine lv_aload_n hx hb d_Model_begins_90 rfl (lv_at hl 0 rfl) ?_
    refine g_getR (b := 43) C hP gl_DeskModel_8 rfl rfl rfl d_Model_begins_91 ?_
    refine lv_iload_n hx hb d_Model_begins_94 rfl (lv_at hl 1 rfl) ?_
    refine lv_iconst (v := (4 : Int32)) hx hb d_Model_begins_95 (by decide) ?_
    refine lv_iadd hx hb d_Model_begins_96 ?_
    obtain ⟨hi97, hM⟩ := gc_some hM
    refine g_bald C hP rfl hi97 d_Model_begins_97 ?_
    refine lv_iload hx hb d_Model_begins_98 (lv_at hl 2 rfl) ?_
    refine lv_icmp_ne (tgt := 107) hx hb d_Model_begins_100 (by decide) (fun hc100 => ?_) (fun hc100 => ?_)
    · replace hM := gi_f hc100 hM
      exact t_Model_begins_b107 C hM hR ls H locs (lv_sub hl [] rfl) hP hS
    · replace hM := gi_t hc100 hM
      exact t_Model_begins_b103 C hM hR ls H locs (lv_sub hl [] rfl) hP hS
noncomputable def M_Model_begins_b19 (x1 : Int32) (x2 : Int32) (x3 : Int32) (x4 : Int32) (x5 : Int32) (x6 : Int32) (x7 : Int32) (s0 : Int32) (u : gSt) : Option ((Int32 × gSt)) :=
  if (x2 - x1) = s0 then
    (gc (gIn x1 (gLen 43)) <| if (u.2.2.1 43 (gIx x1)) = x3 then
      (gc (gIn (x1 + (1 : Int32)) (gLen 43)) <| if (u.2.2.1 43 (gIx (x1 + (1 : Int32)))) = x4 then
        (gc (gIn (x1 + (2 : Int32)) (gLen 43)) <| if (u.2.2.1 43 (gIx (x1 + (2 : Int32)))) = x5 then
          (if s0 < (4 : Int32) then
            (M_Model_begins_b84 x1 x7 s0 u)
          else
            (gc (gIn (x1 + (3 : Int32)) (gLen 43)) <| if (u.2.2.1 43 (gIx (x1 + (3 : Int32)))) = x6 then
              (M_Model_begins_b84 x1 x7 s0 u)
            else
              (M_Model_begins_b107 u)))
        else
          (M_Model_begins_b107 u))
      else
        (M_Model_begins_b107 u))
    else
      (M_Model_begins_b107 u))
  else
    (M_Model_begins_b107 u)
set_option maxHeartbeats 4000000 in
set_option maxRecDepth 100000 in
theorem t_Model_begins_b19 (C : gX "TermDeskModel" prog_13_method_31_code 9 (some .boolean) 0 0 R cells slots cy D ρ A p s m args meth c) {x1 : Int32} {x2 : Int32} {x3 : Int32} {x4 : Int32} {x5 : Int32} {x6 : Int32} {x7 : Int32} {s0 : Int32} {u : gSt} {z : (Int32 × gSt)} (hM : M_Model_begins_b19 x1 x2 x3 x4 x5 x6 x7 s0 u = some z) (hR : gRtZ p l e R s m args below meth c Q H0 cells slots cy D ρ A prog_13_method_31_code z.1 z.2) : gAt p l e R s m args below meth c Q H0 cells slots cy D ρ A 9 19 [(0, .ref (ρ 42)), (1, .int x1), (2, .int x2), (3, .int x3), (4, .int x4), (5, .int x5), (6, .int x6), (7, .int x7)] [.int s0] u := by
  intro ls H locs hl hP hS
  have hx := C.1
  have hb := C.2.1
  unfold M_Model_begins_b19 at hM
  refine lv_istore (lv' := [(8, .int s0), (0, .ref (ρ 42)), (1, .int x1), (2, .int x2), (3, .int x3), (4, .int x4), (5, .int x5), (6, .int x6), (7, .int x7)]) hx hb d_Model_begins_19 hl (by decide) rfl (fun ls hl => ?_)
  refine lv_iload_n hx hb d_Model_begins_21 rfl (lv_at hl 3 rfl) ?_
  refine lv_iload_n hx hb d_Model_begins_22 rfl (lv_at hl 2 rfl) ?_
  refine lv_isub hx hb d_Model_begins_23 ?_
  refine lv_iload hx hb d_Model_begins_24 (lv_at hl 0 rfl) ?_
  refine lv_icmp_ne (tgt := 107) hx hb d_Model_begins_26 (by decide) (fun hc26 => ?_) (fun hc26 => ?_)
  · replace hM := gi_f hc26 hM
    exact t_Model_begins_b107 C hM hR ls H locs (lv_sub hl [] rfl) hP hS
  · replace hM := gi_t hc26 hM
    refine lv_aload_n hx hb d_Model_begins_29 rfl (lv_at hl 1 rfl) ?_
    refine g_getR (b := 43) C hP gl_DeskModel_8 rfl rfl rfl d_Model_begins_30 ?_
    refine lv_iload_n hx hb d_Model_begins_33 rfl (lv_at hl 2 rfl) ?_
    obtain ⟨hi34, hM⟩ := gc_some hM
    refine g_bald C hP rfl hi34 d_Model_begins_34 ?_
    refine lv_iload_n hx hb d_Model_begins_35 rfl (lv_at hl 4 rfl) ?_
    refine lv_icmp_ne (tgt := 107) hx hb d_Model_begins_36 (by decide) (fun hc36 => ?_) (fun hc36 => ?_)
    · replace hM := gi_f hc36 hM
      exact t_Model_begins_b107 C hM hR ls H locs (lv_sub hl [] rfl) hP hS
    · replace hM := gi_t hc36 hM
      refine lv_aload_n hx hb d_Model_begins_39 rfl (lv_at hl 1 rfl) ?_
      refine g_getR (b := 43) C hP gl_DeskModel_8 rfl rfl rfl d_Model_begins_40 ?_
      refine lv_iload_n hx hb d_Model_begins_43 rfl (lv_at hl 2 rfl) ?_
      refine lv_iconst (v := (1 : Int32)) hx hb d_Model_begins_44 (by decide) ?_
      refine lv_iadd hx hb d_Model_begins_45 ?_
      obtain ⟨hi46, hM⟩ := gc_some hM
      refine g_bald C hP rfl hi46 d_Model_begins_46 ?_
      refine lv_iload hx hb d_Model_begins_47 (lv_at hl 5 rfl) ?_
      refine lv_icmp_ne (tgt := 107) hx hb d_Model_begins_49 (by decide) (fun hc49 => ?_) (fun hc49 => ?_)
      · replace hM := gi_f hc49 hM
        exact t_Model_begins_b107 C hM hR ls H locs (lv_sub hl [] rfl) hP hS
      · replace hM := gi_t hc49 hM
        refine lv_aload_n hx hb d_Model_begins_52 rfl (lv_at hl 1 rfl) ?_
        refine g_getR (b := 43) C hP gl_DeskModel_8 rfl rfl rfl d_Model_begins_53 ?_
        refine lv_iload_n hx hb d_Model_begins_56 rfl (lv_at hl 2 rfl) ?_
        refine lv_iconst (v := (2 : Int32)) hx hb d_Model_begins_57 (by decide) ?_
        refine lv_iadd hx hb d_Model_begins_58 ?_
        obtain ⟨hi59, hM⟩ := gc_some hM
        refine g_bald C hP rfl hi59 d_Model_begins_59 ?_
        refine lv_iload hx hb d_Model_begins_60 (lv_at hl 6 rfl) ?_
        refine lv_icmp_ne (tgt := 107) hx hb d_Model_begins_62 (by decide) (fun hc62 => ?_) (fun hc62 => ?_)
        · replace hM := gi_f hc62 hM
          exact t_Model_begins_b107 C hM hR ls H locs (lv_sub hl [] rfl) hP hS
        · replace hM := gi_t hc62 hM
          refine lv_iload hx hb d_Model_begins_65 (lv_at hl 0 rfl) ?_
          refine lv_iconst (v := (4 : Int32)) hx hb d_Model_begins_67 (by decide) ?_
          refine lv_icmp_lt (tgt := 84) hx hb d_Model_begins_68 (by decide) (fun hc68 => ?_) (fun hc68 => ?_)
          · replace hM := gi_t hc68 hM
            exact t_Model_begins_b84 C hM hR ls H locs (lv_sub hl [1, 2, 8, 0] rfl) hP hS
          · replace hM := gi_f hc68 hM
            refine lv_aload_n hx hb d_Model_begins_71 rfl (lv_at hl 1 rfl) ?_
            refine g_getR (b := 43) C hP gl_DeskModel_8 rfl rfl rfl d_Model_begins_72 ?_
            refine lv_iload_n hx hb d_Model_begins_75 rfl (lv_at hl 2 rfl) ?_
            refine lv_iconst (v := (3 : Int32)) hx hb d_Model_begins_76 (by decide) ?_
            refine lv_iadd hx hb d_Model_begins_77 ?_
            obtain ⟨hi78, hM⟩ := gc_some hM
            refine g_bald C hP rfl hi78 d_Model_begins_78 ?_
            refine lv_iload hx hb d_Model_begins_79 (lv_at hl 7 rfl) ?_
            refine lv_icmp_ne (tgt := 107) hx hb d_Model_begins_81 (by decide) (fun hc81 => ?_) (fun hc81 => ?_)
            · replace hM := gi_f hc81 hM
              exact t_Model_begins_b107 C hM hR ls H locs (lv_sub hl [] rfl) hP hS
            · replace hM := gi_t hc81 hM
              exact t_Model_begins_b84 C hM hR ls H locs (lv_sub hl [1, 2, 8, 0] rfl) hP hS
noncomputable def M_Model_begins (x1 : Int32) (x2 : Int32) (x3 : Int32) (x4 : Int32) (x5 : Int32) (x6 : Int32) (x7 : Int32) (u : gSt) : Option ((Int32 × gSt)) :=
  if x7 ≤ (0 : Int32) then
    (if x6 ≤ (0 : Int32) then
      (M_Model_begins_b19 x1 x2 x3 x4 x5 x6 x7 (3 : Int32) u)
    else
      (M_Model_begins_b19 x1 x2 x3 x4 x5 x6 x7 (4 : Int32) u))
  else
    (M_Model_begins_b19 x1 x2 x3 x4 x5 x6 x7 (5 : Int32) u)
set_option maxHeartbeats 4000000 in
set_option maxRecDepth 100000 in
theorem t_Model_begins (C : gX "TermDeskModel" prog_13_method_31_code 9 (some .boolean) 0 0 R cells slots cy D ρ A p s m args meth c) {x1 : Int32} {x2 : Int32} {x3 : Int32} {x4 : Int32} {x5 : Int32} {x6 : Int32} {x7 : Int32} {u : gSt} {z : (Int32 × gSt)} (hM : M_Model_begins x1 x2 x3 x4 x5 x6 x7 u = some z) (hR : gRtZ p l e R s m args below meth c Q H0 cells slots cy D ρ A prog_13_method_31_code z.1 z.2) : gAt p l e R s m args below meth c Q H0 cells slots cy D ρ A 9 0 [(0, .ref (ρ 42)), (1, .int x1), (2, .int x2), (3, .int x3), (4, .int x4), (5, .int x5), (6, .int x6), (7, .int x7)] [] u := by
  intro ls H locs hl hP hS
  have hx := C.1
  have hb := C.2.1
  unfold M_Model_begins at hM
  refine lv_iload hx hb d_Model_begins_0 (lv_at hl 7 rfl) ?_
  refine lv_if_le (tgt := 9) hx hb d_Model_begins_2 (by decide) (fun hc2 => ?_) (fun hc2 => ?_)
  · replace hM := gi_t hc2 hM
    refine lv_iload hx hb d_Model_begins_9 (lv_at hl 6 rfl) ?_
    refine lv_if_le (tgt := 18) hx hb d_Model_begins_11 (by decide) (fun hc11 => ?_) (fun hc11 => ?_)
    · replace hM := gi_t hc11 hM
      refine lv_iconst (v := (3 : Int32)) hx hb d_Model_begins_18 (by decide) ?_
      exact t_Model_begins_b19 C hM hR ls H locs (lv_sub hl [0, 1, 2, 3, 4, 5, 6, 7] rfl) hP hS
    · replace hM := gi_f hc11 hM
      refine lv_iconst (v := (4 : Int32)) hx hb d_Model_begins_14 (by decide) ?_
      refine lv_goto (tgt := 19) hx hb d_Model_begins_15 (by decide) ?_
      exact t_Model_begins_b19 C hM hR ls H locs (lv_sub hl [0, 1, 2, 3, 4, 5, 6, 7] rfl) hP hS
  · replace hM := gi_f hc2 hM
    refine lv_iconst (v := (5 : Int32)) hx hb d_Model_begins_5 (by decide) ?_
    refine lv_goto (tgt := 19) hx hb d_Model_begins_6 (by decide) ?_
    exact t_Model_begins_b19 C hM hR ls H locs (lv_sub hl [0, 1, 2, 3, 4, 5, 6, 7] rfl) hP hS
theorem c_Model_begins {l : Launch} {cy : Nat → ClassId} {D : va_G} {ρ : Nat → Nat} {A : Nat → Prop} (hD : gD ρ A) {x1 : Int32} {x2 : Int32} {x3 : Int32} {x4 : Int32} {x5 : Int32} {x6 : Int32} {x7 : Int32} {u : gSt} {z : (Int32 × gSt)} (hM : M_Model_begins x1 x2 x3 x4 x5 x6 x7 u = some z) : gCtI l y_Model_begins prog_13_method_31_code 9 (some .boolean) 0 0 cy D ρ A [.ref (ρ 42), .int x1, .int x2, .int x3, .int x4, .int x5, .int x6, .int x7] u z.1 z.2 :=
  g_met (by decide) hD (Nat.le_of_ble_eq_true rfl) (fun p e s m below meth c ls X hl hP => t_Model_begins X hM (fun pc ls H locs hz hd hP hS => g_zret X hP hS hz hd) ls _ [] hl hP va_S.rf)
end
section
variable {p : Program} {l : Launch} {e : Env} {R : Room} {s : State} {m : MethodId} {args : Array Value} {below : List Frame} {meth : Method} {c : Code} {Q : State → Prop} {H0 : Heap} {cells slots : Nat} {cy : Nat → ClassId} {D : va_G} {ρ : Nat → Nat} {A : Nat → Prop}
def y_Model_addName : MethodName := ⟨"TermDeskModel", "addName", "(III)V"⟩
theorem gi_Model_addName : gMi y_Model_addName prog_13_method_32_code 5 none 3 8 := ⟨(gWs_at 1217 (by decide +kernel) (by decide +kernel)), (gWs_at 1216 (by decide +kernel) (by decide +kernel)), (gWs_at 77 (by decide +kernel) (by decide +kernel)), (gWs_at 125 (by decide +kernel) (by decide +kernel)), ⟨by decide +kernel, by decide +kernel, by decide +kernel⟩, _, _, rfl⟩
theorem gm_Model_191 : gMk "TermDeskModel" 191 y_Model_addName := Or.inl (gWs_at 1214 (by decide +kernel) (by decide +kernel))
theorem d_Model_addName_0 : decode prog_13_method_32_code 0 = .ok (.iconst 0, 1) := by decide +kernel
theorem d_Model_addName_1 : decode prog_13_method_32_code 1 = .ok (.istore 4, 2) := by decide +kernel
theorem d_Model_addName_3 : decode prog_13_method_32_code 3 = .ok (.iload 4, 2) := by decide +kernel
theorem d_Model_addName_5 : decode prog_13_method_32_code 5 = .ok (.iload_n 2, 1) := by decide +kernel
theorem d_Model_addName_6 : decode prog_13_method_32_code 6 = .ok (.if_icmp .ge 33, 3) := by decide +kernel
theorem d_Model_addName_9 : decode prog_13_method_32_code 9 = .ok (.aload_n 0, 1) := by decide +kernel
theorem d_Model_addName_10 : decode prog_13_method_32_code 10 = .ok (.getfield 18, 3) := by decide +kernel
theorem d_Model_addName_13 : decode prog_13_method_32_code 13 = .ok (.bipush 12, 2) := by decide +kernel
theorem d_Model_addName_15 : decode prog_13_method_32_code 15 = .ok (.aload_n 0, 1) := by decide +kernel
theorem d_Model_addName_16 : decode prog_13_method_32_code 16 = .ok (.getfield 157, 3) := by decide +kernel
theorem d_Model_addName_19 : decode prog_13_method_32_code 19 = .ok (.imul, 1) := by decide +kernel
theorem d_Model_addName_20 : decode prog_13_method_32_code 20 = .ok (.iload 4, 2) := by decide +kernel
theorem d_Model_addName_22 : decode prog_13_method_32_code 22 = .ok (.iadd, 1) := by decide +kernel
theorem d_Model_addName_23 : decode prog_13_method_32_code 23 = .ok (.aload_n 0, 1) := by decide +kernel
theorem d_Model_addName_24 : decode prog_13_method_32_code 24 = .ok (.getfield 8, 3) := by decide +kernel
theorem d_Model_addName_27 : decode prog_13_method_32_code 27 = .ok (.iload_n 1, 1) := by decide +kernel
theorem d_Model_addName_28 : decode prog_13_method_32_code 28 = .ok (.iload 4, 2) := by decide +kernel
theorem d_Model_addName_30 : decode prog_13_method_32_code 30 = .ok (.iadd, 1) := by decide +kernel
theorem d_Model_addName_31 : decode prog_13_method_32_code 31 = .ok (.baload, 1) := by decide +kernel
theorem d_Model_addName_32 : decode prog_13_method_32_code 32 = .ok (.bastore, 1) := by decide +kernel
theorem d_Model_addName_33 : decode prog_13_method_32_code 33 = .ok (.iinc 4 1, 3) := by decide +kernel
theorem d_Model_addName_36 : decode prog_13_method_32_code 36 = .ok (.goto (-33), 3) := by decide +kernel
theorem d_Model_addName_39 : decode prog_13_method_32_code 39 = .ok (.aload_n 0, 1) := by decide +kernel
theorem d_Model_addName_40 : decode prog_13_method_32_code 40 = .ok (.getfield 21, 3) := by decide +kernel
theorem d_Model_addName_43 : decode prog_13_method_32_code 43 = .ok (.aload_n 0, 1) := by decide +kernel
theorem d_Model_addName_44 : decode prog_13_method_32_code 44 = .ok (.getfield 157, 3) := by decide +kernel
theorem d_Model_addName_47 : decode prog_13_method_32_code 47 = .ok (.iload_n 2, 1) := by decide +kernel
theorem d_Model_addName_48 : decode prog_13_method_32_code 48 = .ok (.iastore, 1) := by decide +kernel
theorem d_Model_addName_49 : decode prog_13_method_32_code 49 = .ok (.aload_n 0, 1) := by decide +kernel
theorem d_Model_addName_50 : decode prog_13_method_32_code 50 = .ok (.getfield 25, 3) := by decide +kernel
theorem d_Model_addName_53 : decode prog_13_method_32_code 53 = .ok (.aload_n 0, 1) := by decide +kernel
theorem d_Model_addName_54 : decode prog_13_method_32_code 54 = .ok (.getfield 157, 3) := by decide +kernel
theorem d_Model_addName_57 : decode prog_13_method_32_code 57 = .ok (.iload_n 3, 1) := by decide +kernel
theorem d_Model_addName_58 : decode prog_13_method_32_code 58 = .ok (.iastore, 1) := by decide +kernel
theorem d_Model_addName_59 : decode prog_13_method_32_code 59 = .ok (.aload_n 0, 1) := by decide +kernel
theorem d_Model_addName_60 : decode prog_13_method_32_code 60 = .ok (.dup, 1) := by decide +kernel
theorem d_Model_addName_61 : decode prog_13_method_32_code 61 = .ok (.getfield 157, 3) := by decide +kernel
theorem d_Model_addName_64 : decode prog_13_method_32_code 64 = .ok (.iconst 1, 1) := by decide +kernel
theorem d_Model_addName_65 : decode prog_13_method_32_code 65 = .ok (.iadd, 1) := by decide +kernel
theorem d_Model_addName_66 : decode prog_13_method_32_code 66 = .ok (.putfield 157, 3) := by decide +kernel
theorem d_Model_addName_69 : decode prog_13_method_32_code 69 = .ok (.return_, 1) := by decide +kernel
noncomputable def M_Model_addName_b3 (x1 : Int32) (x2 : Int32) (x3 : Int32) (x4 : Int32) (u : gSt) : Option ((Int32 × Int32 × Int32 × Int32 × gSt) ⊕ ((Int32 × Int32 × gSt))) :=
  if x2 ≤ x4 then
    (some (.inr (x2, x3, u)))
  else
    (gc (gIn (x1 + x4) (gLen 43)) <| gc (gIn (((12 : Int32) * (u.1 42 7)) + x4) (gLen 44)) <| (some (gsA u 44 (gIx (((12 : Int32) * (u.1 42 7)) + x4)) ((u.2.2.1 43 (gIx (x1 + x4))).toInt8.toInt32))).bind fun u32 =>
    some (.inl (x1, x2, x3, x4 + (1 : Int32), u32)))
set_option maxHeartbeats 4000000 in
set_option maxRecDepth 100000 in
theorem t_Model_addName_b3 (C : gX "TermDeskModel" prog_13_method_32_code 5 none 0 0 R cells slots cy D ρ A p s m args meth c) {x1 : Int32} {x2 : Int32} {x3 : Int32} {x4 : Int32} {u : gSt} {z : (Int32 × Int32 × Int32 × Int32 × gSt) ⊕ ((Int32 × Int32 × gSt))} (hM : M_Model_addName_b3 x1 x2 x3 x4 u = some z) (hN : ∀ x1' x2' x3' x4' u', z = .inl (x1', x2', x3', x4', u') → gAt p l e R s m args below meth c Q H0 cells slots cy D ρ A 5 3 [(0, .ref (ρ 42)), (1, .int (x1')), (2, .int (x2')), (3, .int (x3')), (4, .int (x4'))] [] (u')) (hE0 : ∀ x2' x3' u', z = .inr (x2', x3', u') → gAt p l e R s m args below meth c Q H0 cells slots cy D ρ A 5 39 [(0, .ref (ρ 42)), (2, .int (x2')), (3, .int (x3'))] [] (u')) : gAt p l e R s m args below meth c Q H0 cells slots cy D ρ A 5 3 [(0, .ref (ρ 42)), (1, .int x1), (2, .int x2), (3, .int x3), (4, .int x4)] [] u := by
  intro ls H locs hl hP hS
  have hx := C.1
  have hb := C.2.1
  unfold M_Model_addName_b3 at hM
  refine lv_iload hx hb d_Model_addName_3 (lv_at hl 4 rfl) ?_
  refine lv_iload_n hx hb d_Model_addName_5 rfl (lv_at hl 2 rfl) ?_
  refine lv_icmp_ge (tgt := 39) hx hb d_Model_addName_6 (by decide) (fun hc6 => ?_) (fun hc6 => ?_)
  · replace hM := gi_t hc6 hM
    exact hE0 _ _ _ (Option.some.inj hM).symm ls H locs (lv_sub hl [0, 2, 3] rfl) hP hS
  · replace hM := gi_f hc6 hM
    refine lv_aload_n hx hb d_Model_addName_9 rfl (lv_at hl 0 rfl) ?_
    refine g_getR (b := 44) C hP gl_DeskModel_18 rfl rfl rfl d_Model_addName_10 ?_
    refine lv_bipush (v := (12 : Int32)) hx hb d_Model_addName_13 (by decide) ?_
    refine lv_aload_n hx hb d_Model_addName_15 rfl (lv_at hl 0 rfl) ?_
    refine g_getI C hP gl_DeskModel_157 rfl rfl d_Model_addName_16 ?_
    refine lv_imul hx hb d_Model_addName_19 ?_
    refine lv_iload hx hb d_Model_addName_20 (lv_at hl 4 rfl) ?_
    refine lv_iadd hx hb d_Model_addName_22 ?_
    refine lv_aload_n hx hb d_Model_addName_23 rfl (lv_at hl 0 rfl) ?_
    refine g_getR (b := 43) C hP gl_DeskModel_8 rfl rfl rfl d_Model_addName_24 ?_
    refine lv_iload_n hx hb d_Model_addName_27 rfl (lv_at hl 1 rfl) ?_
    refine lv_iload hx hb d_Model_addName_28 (lv_at hl 4 rfl) ?_
    refine lv_iadd hx hb d_Model_addName_30 ?_
    obtain ⟨hi31, hM⟩ := gc_some hM
    refine g_bald C hP rfl hi31 d_Model_addName_31 ?_
    obtain ⟨hi32, hM⟩ := gc_some hM
    obtain ⟨u32, e32, hM⟩ := gb_some hM
    refine g_bast C hP hS rfl hi32 d_Model_addName_32 (fun H locs hP hS => ?_)
    rw [Option.some.inj e32] at hP
    refine lv_iinc (k := 4) (v := x4 + (1 : Int32)) (lv' := [(4, .int (x4 + (1 : Int32))), (0, .ref (ρ 42)), (1, .int x1), (2, .int x2), (3, .int x3)]) hx hb d_Model_addName_33 hl rfl (congrArg (fun z => x4 + z) (by decide)) (by decide) rfl (fun ls hl => ?_)
    refine lv_goto (tgt := 3) hx hb d_Model_addName_36 (by decide) ?_
    exact hN _ _ _ _ _ (Option.some.inj hM).symm ls H locs (lv_sub hl [1, 2, 3, 4, 0] rfl) hP hS
noncomputable def M_Model_addName_L3 : (Int32 × Int32 × Int32 × Int32 × gSt) → Option ((Int32 × Int32 × Int32 × Int32 × gSt) ⊕ ((Int32 × Int32 × gSt))) := fun x => M_Model_addName_b3 x.1 x.2.1 x.2.2.1 x.2.2.2.1 x.2.2.2.2
theorem t_Model_addName_L3 (C : gX "TermDeskModel" prog_13_method_32_code 5 none 0 0 R cells slots cy D ρ A p s m args meth c) {x1 : Int32} {x2 : Int32} {x3 : Int32} {x4 : Int32} {u : gSt} {yy : (Int32 × Int32 × gSt)} (hL : gLp M_Model_addName_L3 (x1, x2, x3, x4, u) = some yy) (hE0 : (∀ y', yy = y' → gAt p l e R s m args below meth c Q H0 cells slots cy D ρ A 5 39 [(0, .ref (ρ 42)), (2, .int (y'.1)), (3, .int (y'.2.1))] [] (y'.2.2))) : gAt p l e R s m args below meth c Q H0 cells slots cy D ρ A 5 3 [(0, .ref (ρ 42)), (1, .int x1), (2, .int x2), (3, .int x3), (4, .int x4)] [] u :=
  g_loop (f := M_Model_addName_L3) (P := fun x => gAt p l e R s m args below meth c Q H0 cells slots cy D ρ A 5 3 [(0, .ref (ρ 42)), (1, .int x.1), (2, .int x.2.1), (3, .int x.2.2.1), (4, .int x.2.2.2.1)] [] x.2.2.2.2) (E := fun yy => (∀ y', yy = y' → gAt p l e R s m args below meth c Q H0 cells slots cy D ρ A 5 39 [(0, .ref (ρ 42)), (2, .int (y'.1)), (3, .int (y'.2.1))] [] (y'.2.2))) (fun x z hf hN hE => t_Model_addName_b3 C hf (fun x1' x2' x3' x4' u' h => hN (x1', x2', x3', x4', u') h) (fun x2' x3' u' h => (hE _ h) (x2', x3', u') rfl)) hL hE0
noncomputable def M_Model_addName (x1 : Int32) (x2 : Int32) (x3 : Int32) (u : gSt) : Option (gSt) :=
  (gLp M_Model_addName_L3 (x1, x2, x3, (0 : Int32), u)).bind fun y3 =>
  gc (gIn (y3.2.2.1 42 7) (gLen 45)) <| (some (gsA y3.2.2 45 (gIx (y3.2.2.1 42 7)) y3.1)).bind fun u48 =>
  gc (gIn (u48.1 42 7) (gLen 46)) <| (some (gsA u48 46 (gIx (u48.1 42 7)) y3.2.1)).bind fun u58 =>
  (some (gsF u58 42 7 ((u58.1 42 7) + (1 : Int32)))).bind fun u66 =>
  some u66
set_option maxHeartbeats 4000000 in
set_option maxRecDepth 100000 in
theorem t_Model_addName (C : gX "TermDeskModel" prog_13_method_32_code 5 none 0 0 R cells slots cy D ρ A p s m args meth c) {x1 : Int32} {x2 : Int32} {x3 : Int32} {u : gSt} {z : gSt} (hM : M_Model_addName x1 x2 x3 u = some z) (hR : gRtV p l e R s m args below meth c Q H0 cells slots cy D ρ A prog_13_method_32_code z) : gAt p l e R s m args below meth c Q H0 cells slots cy D ρ A 5 0 [(0, .ref (ρ 42)), (1, .int x1), (2, .int x2), (3, .int x3)] [] u := by
  intro ls H locs hl hP hS
  have hx := C.1
  have hb := C.2.1
  unfold M_Model_addName at hM
  refine lv_iconst (v := (0 : Int32)) hx hb d_Model_addName_0 (by decide) ?_
  refine lv_istore (lv' := [(4, .int (0 : Int32)), (0, .ref (ρ 42)), (1, .int x1), (2, .int x2), (3, .int x3)]) hx hb d_Model_addName_1 hl (by decide) rfl (fun ls hl => ?_)
  obtain ⟨y3, hL3, hM⟩ := gb_some hM
  refine t_Model_addName_L3 C hL3 (fun y3_0 hy => ?_) ls H locs (lv_sub hl [1, 2, 3, 4, 0] rfl) hP hS
  · subst hy
    intro ls H locs hl hP hS
    refine lv_aload_n hx hb d_Model_addName_39 rfl (lv_at hl 0 rfl) ?_
    refine g_getR (b := 45) C hP gl_DeskModel_21 rfl rfl rfl d_Model_addName_40 ?_
    refine lv_aload_n hx hb d_Model_addName_43 rfl (lv_at hl 0 rfl) ?_
    refine g_getI C hP gl_DeskModel_157 rfl rfl d_Model_addName_44 ?_
    refine lv_iload_n hx hb d_Model_addName_47 rfl (lv_at hl 1 rfl) ?_
    obtain ⟨hi48, hM⟩ := gc_some hM
    obtain ⟨u48, e48, hM⟩ := gb_some hM
    refine g_iast C hP hS rfl hi48 d_Model_addName_48 (fun H locs hP hS => ?_)
    rw [Option.some.inj e48] at hP
    refine lv_aload_n hx hb d_Model_addName_49 rfl (lv_at hl 0 rfl) ?_
    refine g_getR (b := 46) C hP gl_DeskModel_25 rfl rfl rfl d_Model_addName_50 ?_
    refine lv_aload_n hx hb d_Model_addName_53 rfl (lv_at hl 0 rfl) ?_
    refine g_getI C hP gl_DeskModel_157 rfl rfl d_Model_addName_54 ?_
    refine lv_iload_n hx hb d_Model_addName_57 rfl (lv_at hl 2 rfl) ?_
    obtain ⟨hi58, hM⟩ := gc_some hM
    obtain ⟨u58, e58, hM⟩ := gb_some hM
    refine g_iast C hP hS rfl hi58 d_Model_addName_58 (fun H locs hP hS => ?_)
    rw [Option.some.inj e58] at hP
    refine lv_aload_n hx hb d_Model_addName_59 rfl (lv_at hl 0 rfl) ?_
    refine lv_dup hx hb d_Model_addName_60 rfl ?_
    refine g_getI C hP gl_DeskModel_157 rfl rfl d_Model_addName_61 ?_
    refine lv_iconst (v := (1 : Int32)) hx hb d_Model_addName_64 (by decide) ?_
    refine lv_iadd hx hb d_Model_addName_65 ?_
    obtain ⟨u66, e66, hM⟩ := gb_some hM
    refine g_putI C hP hS gl_DeskModel_157 rfl rfl gq_8_7 d_Model_addName_66 (fun H locs hP hS => ?_)
    rw [Option.some.inj e66] at hP
    obtain rfl := Option.some.inj hM
    exact hR _ ls H locs d_Model_addName_69 hP hS
theorem c_Model_addName {l : Launch} {cy : Nat → ClassId} {D : va_G} {ρ : Nat → Nat} {A : Nat → Prop} (hD : gD ρ A) {x1 : Int32} {x2 : Int32} {x3 : Int32} {u : gSt} {z : gSt} (hM : M_Model_addName x1 x2 x3 u = some z) : gCtV l y_Model_addName prog_13_method_32_code 5 none 0 0 cy D ρ A [.ref (ρ 42), .int x1, .int x2, .int x3] u z :=
  g_met (by decide) hD (Nat.le_of_ble_eq_true rfl) (fun p e s m below meth c ls X hl hP => t_Model_addName X hM (fun pc ls H locs hd hP hS => g_vret X hP hS hd) ls _ [] hl hP va_S.rf)
end
section
variable {p : Program} {l : Launch} {e : Env} {R : Room} {s : State} {m : MethodId} {args : Array Value} {below : List Frame} {meth : Method} {c : Code} {Q : State → Prop} {H0 : Heap} {cells slots : Nat} {cy : Nat → ClassId} {D : va_G} {ρ : Nat → Nat} {A : Nat → Prop}
def y_Model_newTerm : MethodName := ⟨"TermDeskModel", "newTerm", "(I)V"⟩
theorem gi_Model_newTerm : gMi y_Model_newTerm prog_13_method_33_code 2 none 1 8 := ⟨(gWs_at 1186 (by decide +kernel) (by decide +kernel)), (gWs_at 1185 (by decide +kernel) (by decide +kernel)), (gWs_at 70 (by decide +kernel) (by decide +kernel)), (gWs_at 125 (by decide +kernel) (by decide +kernel)), ⟨by decide +kernel, by decide +kernel, by decide +kernel⟩, _, _, rfl⟩
theorem gm_Model_214 : gMk "TermDeskModel" 214 y_Model_newTerm := Or.inl (gWs_at 1183 (by decide +kernel) (by decide +kernel))
theorem d_Model_newTerm_0 : decode prog_13_method_33_code 0 = .ok (.aload_n 0, 1) := by decide +kernel
theorem d_Model_newTerm_1 : decode prog_13_method_33_code 1 = .ok (.invokevirtual 167, 3) := by decide +kernel
theorem d_Model_newTerm_4 : decode prog_13_method_33_code 4 = .ok (.ifCond .eq 10, 3) := by decide +kernel
theorem d_Model_newTerm_7 : decode prog_13_method_33_code 7 = .ok (.aload_n 0, 1) := by decide +kernel
theorem d_Model_newTerm_8 : decode prog_13_method_33_code 8 = .ok (.invokevirtual 171, 3) := by decide +kernel
theorem d_Model_newTerm_11 : decode prog_13_method_33_code 11 = .ok (.ifCond .ne 4, 3) := by decide +kernel
theorem d_Model_newTerm_14 : decode prog_13_method_33_code 14 = .ok (.return_, 1) := by decide +kernel
theorem d_Model_newTerm_15 : decode prog_13_method_33_code 15 = .ok (.aload_n 0, 1) := by decide +kernel
theorem d_Model_newTerm_16 : decode prog_13_method_33_code 16 = .ok (.invokevirtual 174, 3) := by decide +kernel
theorem d_Model_newTerm_19 : decode prog_13_method_33_code 19 = .ok (.iconst (-1), 1) := by decide +kernel
theorem d_Model_newTerm_20 : decode prog_13_method_33_code 20 = .ok (.if_icmp .eq 13, 3) := by decide +kernel
theorem d_Model_newTerm_23 : decode prog_13_method_33_code 23 = .ok (.aload_n 0, 1) := by decide +kernel
theorem d_Model_newTerm_24 : decode prog_13_method_33_code 24 = .ok (.iconst 4, 1) := by decide +kernel
theorem d_Model_newTerm_25 : decode prog_13_method_33_code 25 = .ok (.aload_n 0, 1) := by decide +kernel
theorem d_Model_newTerm_26 : decode prog_13_method_33_code 26 = .ok (.getfield 150, 3) := by decide +kernel
theorem d_Model_newTerm_29 : decode prog_13_method_33_code 29 = .ok (.invokevirtual 146, 3) := by decide +kernel
theorem d_Model_newTerm_32 : decode prog_13_method_33_code 32 = .ok (.pop, 1) := by decide +kernel
theorem d_Model_newTerm_33 : decode prog_13_method_33_code 33 = .ok (.aload_n 0, 1) := by decide +kernel
theorem d_Model_newTerm_34 : decode prog_13_method_33_code 34 = .ok (.iload_n 1, 1) := by decide +kernel
theorem d_Model_newTerm_35 : decode prog_13_method_33_code 35 = .ok (.aload_n 0, 1) := by decide +kernel
theorem d_Model_newTerm_36 : decode prog_13_method_33_code 36 = .ok (.getfield 184, 3) := by decide +kernel
theorem d_Model_newTerm_39 : decode prog_13_method_33_code 39 = .ok (.sipush 200, 3) := by decide +kernel
theorem d_Model_newTerm_42 : decode prog_13_method_33_code 42 = .ok (.if_icmp .ge 17, 3) := by decide +kernel
theorem d_Model_newTerm_45 : decode prog_13_method_33_code 45 = .ok (.aload_n 0, 1) := by decide +kernel
theorem d_Model_newTerm_46 : decode prog_13_method_33_code 46 = .ok (.getfield 157, 3) := by decide +kernel
theorem d_Model_newTerm_49 : decode prog_13_method_33_code 49 = .ok (.sipush 300, 3) := by decide +kernel
theorem d_Model_newTerm_52 : decode prog_13_method_33_code 52 = .ok (.if_icmp .ge 7, 3) := by decide +kernel
theorem d_Model_newTerm_55 : decode prog_13_method_33_code 55 = .ok (.iconst 1, 1) := by decide +kernel
theorem d_Model_newTerm_56 : decode prog_13_method_33_code 56 = .ok (.goto 4, 3) := by decide +kernel
theorem d_Model_newTerm_59 : decode prog_13_method_33_code 59 = .ok (.iconst 0, 1) := by decide +kernel
theorem d_Model_newTerm_60 : decode prog_13_method_33_code 60 = .ok (.invokevirtual 187, 3) := by decide +kernel
theorem d_Model_newTerm_63 : decode prog_13_method_33_code 63 = .ok (.ifCond .ne 4, 3) := by decide +kernel
theorem d_Model_newTerm_66 : decode prog_13_method_33_code 66 = .ok (.return_, 1) := by decide +kernel
theorem d_Model_newTerm_67 : decode prog_13_method_33_code 67 = .ok (.aload_n 0, 1) := by decide +kernel
theorem d_Model_newTerm_68 : decode prog_13_method_33_code 68 = .ok (.aload_n 0, 1) := by decide +kernel
theorem d_Model_newTerm_69 : decode prog_13_method_33_code 69 = .ok (.getfield 150, 3) := by decide +kernel
theorem d_Model_newTerm_72 : decode prog_13_method_33_code 72 = .ok (.aload_n 0, 1) := by decide +kernel
theorem d_Model_newTerm_73 : decode prog_13_method_33_code 73 = .ok (.getfield 140, 3) := by decide +kernel
theorem d_Model_newTerm_76 : decode prog_13_method_33_code 76 = .ok (.aload_n 0, 1) := by decide +kernel
theorem d_Model_newTerm_77 : decode prog_13_method_33_code 77 = .ok (.getfield 150, 3) := by decide +kernel
theorem d_Model_newTerm_80 : decode prog_13_method_33_code 80 = .ok (.isub, 1) := by decide +kernel
theorem d_Model_newTerm_81 : decode prog_13_method_33_code 81 = .ok (.aload_n 0, 1) := by decide +kernel
theorem d_Model_newTerm_82 : decode prog_13_method_33_code 82 = .ok (.getfield 184, 3) := by decide +kernel
theorem d_Model_newTerm_85 : decode prog_13_method_33_code 85 = .ok (.invokevirtual 191, 3) := by decide +kernel
theorem d_Model_newTerm_88 : decode prog_13_method_33_code 88 = .ok (.aload_n 0, 1) := by decide +kernel
theorem d_Model_newTerm_89 : decode prog_13_method_33_code 89 = .ok (.getfield 34, 3) := by decide +kernel
theorem d_Model_newTerm_92 : decode prog_13_method_33_code 92 = .ok (.aload_n 0, 1) := by decide +kernel
theorem d_Model_newTerm_93 : decode prog_13_method_33_code 93 = .ok (.getfield 184, 3) := by decide +kernel
theorem d_Model_newTerm_96 : decode prog_13_method_33_code 96 = .ok (.iconst 0, 1) := by decide +kernel
theorem d_Model_newTerm_97 : decode prog_13_method_33_code 97 = .ok (.iastore, 1) := by decide +kernel
theorem d_Model_newTerm_98 : decode prog_13_method_33_code 98 = .ok (.aload_n 0, 1) := by decide +kernel
theorem d_Model_newTerm_99 : decode prog_13_method_33_code 99 = .ok (.dup, 1) := by decide +kernel
theorem d_Model_newTerm_100 : decode prog_13_method_33_code 100 = .ok (.getfield 184, 3) := by decide +kernel
theorem d_Model_newTerm_103 : decode prog_13_method_33_code 103 = .ok (.iconst 1, 1) := by decide +kernel
theorem d_Model_newTerm_104 : decode prog_13_method_33_code 104 = .ok (.iadd, 1) := by decide +kernel
theorem d_Model_newTerm_105 : decode prog_13_method_33_code 105 = .ok (.putfield 184, 3) := by decide +kernel
theorem d_Model_newTerm_108 : decode prog_13_method_33_code 108 = .ok (.return_, 1) := by decide +kernel
noncomputable def M_Model_newTerm_b14 (u : gSt) : Option (gSt) :=
  some u
set_option maxHeartbeats 4000000 in
set_option maxRecDepth 100000 in
theorem t_Model_newTerm_b14 (C : gX "TermDeskModel" prog_13_method_33_code 2 none 2 46 R cells slots cy D ρ A p s m args meth c) {u : gSt} {z : gSt} (hM : M_Model_newTerm_b14 u = some z) (hR : gRtV p l e R s m args below meth c Q H0 cells slots cy D ρ A prog_13_method_33_code z) : gAt p l e R s m args below meth c Q H0 cells slots cy D ρ A 2 14 [] [] u := by
  intro ls H locs hl hP hS
  have hx := C.1
  have hb := C.2.1
  unfold M_Model_newTerm_b14 at hM
  obtain rfl := Option.some.inj hM
  exact hR _ ls H locs d_Model_newTerm_14 hP hS
noncomputable def M_Model_newTerm_b60 (s0 : Int32) (s1 : Int32) (u : gSt) : Option (gSt) :=
  (M_Model_ends s1 s0 u).bind fun q60 =>
  if q60.1 = (0 : Int32) then
    (some q60.2)
  else
    ((M_Model_addName (q60.2.1 42 22) ((q60.2.1 42 23) - (q60.2.1 42 22)) (q60.2.1 42 11) q60.2).bind fun q85 =>
    gc (gIn (q85.1 42 11) (gLen 49)) <| (some (gsA q85 49 (gIx (q85.1 42 11)) (0 : Int32))).bind fun u97 =>
    (some (gsF u97 42 11 ((u97.1 42 11) + (1 : Int32)))).bind fun u105 =>
    some u105)
set_option maxHeartbeats 4000000 in
set_option maxRecDepth 100000 in
theorem t_Model_newTerm_b60 (C : gX "TermDeskModel" prog_13_method_33_code 2 none 2 46 R cells slots cy D ρ A p s m args meth c) {s0 : Int32} {s1 : Int32} {u : gSt} {z : gSt} (hM : M_Model_newTerm_b60 s0 s1 u = some z) (hR : gRtV p l e R s m args below meth c Q H0 cells slots cy D ρ A prog_13_method_33_code z) : gAt p l e R s m args below meth c Q H0 cells slots cy D ρ A 2 60 [(0, .ref (ρ 42))] [.int s0, .int s1, .ref (ρ 42)] u := by
  intro ls H locs hl hP hS
  have hx := C.1
  have hb := C.2.1
  unfold M_Model_newTerm_b60 at hM
  obtain ⟨q60, hq60, hM⟩ := gb_some hM
  refine g_backI (g_runV (As := [.int s1, .int s0]) C hP (c_Model_ends C.2.2.2.2.2.2.2.2.1 hq60) gi_Model_ends gm_Model_187 rfl rfl (by decide) (by decide) hl.1 rfl (Nat.le_of_ble_eq_true rfl) d_Model_newTerm_60) hS (fun H locs hP hS => ?_)
  refine lv_if_ne (tgt := 67) hx hb d_Model_newTerm_63 (by decide) (fun hc63 => ?_) (fun hc63 => ?_)
  · replace hM := gi_f hc63 hM
    refine lv_aload_n hx hb d_Model_newTerm_67 rfl (lv_at hl 0 rfl) ?_
    refine lv_aload_n hx hb d_Model_newTerm_68 rfl (lv_at hl 0 rfl) ?_
    refine g_getI C hP gl_DeskModel_150 rfl rfl d_Model_newTerm_69 ?_
    refine lv_aload_n hx hb d_Model_newTerm_72 rfl (lv_at hl 0 rfl) ?_
    refine g_getI C hP gl_DeskModel_140 rfl rfl d_Model_newTerm_73 ?_
    refine lv_aload_n hx hb d_Model_newTerm_76 rfl (lv_at hl 0 rfl) ?_
    refine g_getI C hP gl_DeskModel_150 rfl rfl d_Model_newTerm_77 ?_
    refine lv_isub hx hb d_Model_newTerm_80 ?_
    refine lv_aload_n hx hb d_Model_newTerm_81 rfl (lv_at hl 0 rfl) ?_
    refine g_getI C hP gl_DeskModel_184 rfl rfl d_Model_newTerm_82 ?_
    obtain ⟨q85, hq85, hM⟩ := gb_some hM
    refine g_backV (g_runV (As := [.int (q60.2.1 42 22), .int ((q60.2.1 42 23) - (q60.2.1 42 22)), .int (q60.2.1 42 11)]) C hP (c_Model_addName C.2.2.2.2.2.2.2.2.1 hq85) gi_Model_addName gm_Model_191 rfl rfl (by decide) (by decide) hl.1 rfl (Nat.le_of_ble_eq_true rfl) d_Model_newTerm_85) hS (fun H locs hP hS => ?_)
    refine lv_aload_n hx hb d_Model_newTerm_88 rfl (lv_at hl 0 rfl) ?_
    refine g_getR (b := 49) C hP gl_DeskModel_34 rfl rfl rfl d_Model_newTerm_89 ?_
    refine lv_aload_n hx hb d_Model_newTerm_92 rfl (lv_at hl 0 rfl) ?_
    refine g_getI C hP gl_DeskModel_184 rfl rfl d_Model_newTerm_93 ?_
    refine lv_iconst (v := (0 : Int32)) hx hb d_Model_newTerm_96 (by decide) ?_
    obtain ⟨hi97, hM⟩ := gc_some hM
    obtain ⟨u97, e97, hM⟩ := gb_some hM
    refine g_iast C hP hS rfl hi97 d_Model_newTerm_97 (fun H locs hP hS => ?_)
    rw [Option.some.inj e97] at hP
    refine lv_aload_n hx hb d_Model_newTerm_98 rfl (lv_at hl 0 rfl) ?_
    refine lv_dup hx hb d_Model_newTerm_99 rfl ?_
    refine g_getI C hP gl_DeskModel_184 rfl rfl d_Model_newTerm_100 ?_
    refine lv_iconst (v := (1 : Int32)) hx hb d_Model_newTerm_103 (by decide) ?_
    refine lv_iadd hx hb d_Model_newTerm_104 ?_
    obtain ⟨u105, e105, hM⟩ := gb_some hM
    refine g_putI C hP hS gl_DeskModel_184 rfl rfl gq_8_11 d_Model_newTerm_105 (fun H locs hP hS => ?_)
    rw [Option.some.inj e105] at hP
    obtain rfl := Option.some.inj hM
    exact hR _ ls H locs d_Model_newTerm_108 hP hS
  · replace hM := gi_t hc63 hM
    obtain rfl := Option.some.inj hM
    exact hR _ ls H locs d_Model_newTerm_66 hP hS
noncomputable def M_Model_newTerm_b59 (s0 : Int32) (u : gSt) : Option (gSt) :=
  M_Model_newTerm_b60 (0 : Int32) s0 u
set_option maxHeartbeats 4000000 in
set_option maxRecDepth 100000 in
theorem t_Model_newTerm_b59 (C : gX "TermDeskModel" prog_13_method_33_code 2 none 2 46 R cells slots cy D ρ A p s m args meth c) {s0 : Int32} {u : gSt} {z : gSt} (hM : M_Model_newTerm_b59 s0 u = some z) (hR : gRtV p l e R s m args below meth c Q H0 cells slots cy D ρ A prog_13_method_33_code z) : gAt p l e R s m args below meth c Q H0 cells slots cy D ρ A 2 59 [(0, .ref (ρ 42))] [.int s0, .ref (ρ 42)] u := by
  intro ls H locs hl hP hS
  have hx := C.1
  have hb := C.2.1
  unfold M_Model_newTerm_b59 at hM
  refine lv_iconst (v := (0 : Int32)) hx hb d_Model_newTerm_59 (by decide) ?_
  exact t_Model_newTerm_b60 C hM hR ls H locs (lv_sub hl [0] rfl) hP hS
noncomputable def M_Model_newTerm_b33 (x1 : Int32) (u : gSt) : Option (gSt) :=
  if (200 : Int32) ≤ (u.1 42 11) then
    (M_Model_newTerm_b59 x1 u)
  else
    (if (300 : Int32) ≤ (u.1 42 7) then
      (M_Model_newTerm_b59 x1 u)
    else
      (M_Model_newTerm_b60 (1 : Int32) x1 u))
set_option maxHeartbeats 4000000 in
set_option maxRecDepth 100000 in
theorem t_Model_newTerm_b33 (C : gX "TermDeskModel" prog_13_method_33_code 2 none 2 46 R cells slots cy D ρ A p s m args meth c) {x1 : Int32} {u : gSt} {z : gSt} (hM : M_Model_newTerm_b33 x1 u = some z) (hR : gRtV p l e R s m args below meth c Q H0 cells slots cy D ρ A prog_13_method_33_code z) : gAt p l e R s m args below meth c Q H0 cells slots cy D ρ A 2 33 [(0, .ref (ρ 42)), (1, .int x1)] [] u := by
  intro ls H locs hl hP hS
  have hx := C.1
  have hb := C.2.1
  unfold M_Model_newTerm_b33 at hM
  refine lv_aload_n hx hb d_Model_newTerm_33 rfl (lv_at hl 0 rfl) ?_
  refine lv_iload_n hx hb d_Model_newTerm_34 rfl (lv_at hl 1 rfl) ?_
  refine lv_aload_n hx hb d_Model_newTerm_35 rfl (lv_at hl 0 rfl) ?_
  refine g_getI C hP gl_DeskModel_184 rfl rfl d_Model_newTerm_36 ?_
  refine lv_sipush (v := (200 : Int32)) hx hb d_Model_newTerm_39 (by decide) ?_
  refine lv_icmp_ge (tgt := 59) hx hb d_Model_newTerm_42 (by decide) (fun hc42 => ?_) (fun hc42 => ?_)
  · replace hM := gi_t hc42 hM
    exact t_Model_newTerm_b59 C hM hR ls H locs (lv_sub hl [0] rfl) hP hS
  · replace hM := gi_f hc42 hM
    refine lv_aload_n hx hb d_Model_newTerm_45 rfl (lv_at hl 0 rfl) ?_
    refine g_getI C hP gl_DeskModel_157 rfl rfl d_Model_newTerm_46 ?_
    refine lv_sipush (v := (300 : Int32)) hx hb d_Model_newTerm_49 (by decide) ?_
    refine lv_icmp_ge (tgt := 59) hx hb d_Model_newTerm_52 (by decide) (fun hc52 => ?_) (fun hc52 => ?_)
    · replace hM := gi_t hc52 hM
      exact t_Model_newTerm_b59 C hM hR ls H locs (lv_sub hl [0] rfl) hP hS
    · replace hM := gi_f hc52 hM
      refine lv_iconst (v := (1 : Int32)) hx hb d_Model_newTerm_55 (by decide) ?_
      refine lv_goto (tgt := 60) hx hb d_Model_newTerm_56 (by decide) ?_
      exact t_Model_newTerm_b60 C hM hR ls H locs (lv_sub hl [0] rfl) hP hS
noncomputable def M_Model_newTerm (x1 : Int32) (u : gSt) : Option (gSt) :=
  (M_Model_next u).bind fun q1 =>
  if q1.1 = (0 : Int32) then
    (M_Model_newTerm_b14 q1.2)
  else
    ((M_Model_isName q1.2).bind fun q8 =>
    if q8.1 = (0 : Int32) then
      (M_Model_newTerm_b14 q8.2)
    else
      ((M_Model_termOf q8.2).bind fun q16 =>
      if q16.1 = (-1 : Int32) then
        (M_Model_newTerm_b33 x1 q16.2)
      else
        ((M_Model_stop (4 : Int32) (q16.2.1 42 22) q16.2).bind fun q29 =>
        M_Model_newTerm_b33 x1 q29.2)))
set_option maxHeartbeats 4000000 in
set_option maxRecDepth 100000 in
theorem t_Model_newTerm (C : gX "TermDeskModel" prog_13_method_33_code 2 none 2 46 R cells slots cy D ρ A p s m args meth c) {x1 : Int32} {u : gSt} {z : gSt} (hM : M_Model_newTerm x1 u = some z) (hR : gRtV p l e R s m args below meth c Q H0 cells slots cy D ρ A prog_13_method_33_code z) : gAt p l e R s m args below meth c Q H0 cells slots cy D ρ A 2 0 [(0, .ref (ρ 42)), (1, .int x1)] [] u := by
  intro ls H locs hl hP hS
  have hx := C.1
  have hb := C.2.1
  unfold M_Model_newTerm at hM
  refine lv_aload_n hx hb d_Model_newTerm_0 rfl (lv_at hl 0 rfl) ?_
  obtain ⟨q1, hq1, hM⟩ := gb_some hM
  refine g_backI (g_runV (As := []) C hP (c_Model_next C.2.2.2.2.2.2.2.2.1 hq1) gi_Model_next gm_Model_167 rfl rfl (by decide) (by decide) hl.1 rfl (Nat.le_of_ble_eq_true rfl) d_Model_newTerm_1) hS (fun H locs hP hS => ?_)
  refine lv_if_eq (tgt := 14) hx hb d_Model_newTerm_4 (by decide) (fun hc4 => ?_) (fun hc4 => ?_)
  · replace hM := gi_t hc4 hM
    exact t_Model_newTerm_b14 C hM hR ls H locs (lv_sub hl [] rfl) hP hS
  · replace hM := gi_f hc4 hM
    refine lv_aload_n hx hb d_Model_newTerm_7 rfl (lv_at hl 0 rfl) ?_
    obtain ⟨q8, hq8, hM⟩ := gb_some hM
    refine g_backI (g_runV (As := []) C hP (c_Model_isName C.2.2.2.2.2.2.2.2.1 hq8) gi_Model_isName gm_Model_171 rfl rfl (by decide) (by decide) hl.1 rfl (Nat.le_of_ble_eq_true rfl) d_Model_newTerm_8) hS (fun H locs hP hS => ?_)
    refine lv_if_ne (tgt := 15) hx hb d_Model_newTerm_11 (by decide) (fun hc11 => ?_) (fun hc11 => ?_)
    · replace hM := gi_f hc11 hM
      refine lv_aload_n hx hb d_Model_newTerm_15 rfl (lv_at hl 0 rfl) ?_
      obtain ⟨q16, hq16, hM⟩ := gb_some hM
      refine g_backI (g_runV (As := []) C hP (c_Model_termOf C.2.2.2.2.2.2.2.2.1 hq16) gi_Model_termOf gm_Model_174 rfl rfl (by decide) (by decide) hl.1 rfl (Nat.le_of_ble_eq_true rfl) d_Model_newTerm_16) hS (fun H locs hP hS => ?_)
      refine lv_iconst (v := (-1 : Int32)) hx hb d_Model_newTerm_19 (by decide) ?_
      refine lv_icmp_eq (tgt := 33) hx hb d_Model_newTerm_20 (by decide) (fun hc20 => ?_) (fun hc20 => ?_)
      · replace hM := gi_t hc20 hM
        exact t_Model_newTerm_b33 C hM hR ls H locs (lv_sub hl [0, 1] rfl) hP hS
      · replace hM := gi_f hc20 hM
        refine lv_aload_n hx hb d_Model_newTerm_23 rfl (lv_at hl 0 rfl) ?_
        refine lv_iconst (v := (4 : Int32)) hx hb d_Model_newTerm_24 (by decide) ?_
        refine lv_aload_n hx hb d_Model_newTerm_25 rfl (lv_at hl 0 rfl) ?_
        refine g_getI C hP gl_DeskModel_150 rfl rfl d_Model_newTerm_26 ?_
        obtain ⟨q29, hq29, hM⟩ := gb_some hM
        refine g_backI (g_runV (As := [.int (4 : Int32), .int (q16.2.1 42 22)]) C hP (c_Model_stop C.2.2.2.2.2.2.2.2.1 hq29) gi_Model_stop gm_Model_146 rfl rfl (by decide) (by decide) hl.1 rfl (Nat.le_of_ble_eq_true rfl) d_Model_newTerm_29) hS (fun H locs hP hS => ?_)
        refine lv_pop hx hb d_Model_newTerm_32 rfl ?_
        exact t_Model_newTerm_b33 C hM hR ls H locs (lv_sub hl [0, 1] rfl) hP hS
    · replace hM := gi_t hc11 hM
      exact t_Model_newTerm_b14 C hM hR ls H locs (lv_sub hl [] rfl) hP hS
theorem c_Model_newTerm {l : Launch} {cy : Nat → ClassId} {D : va_G} {ρ : Nat → Nat} {A : Nat → Prop} (hD : gD ρ A) {x1 : Int32} {u : gSt} {z : gSt} (hM : M_Model_newTerm x1 u = some z) : gCtV l y_Model_newTerm prog_13_method_33_code 2 none 2 46 cy D ρ A [.ref (ρ 42), .int x1] u z :=
  g_met (by decide) hD (Nat.le_of_ble_eq_true rfl) (fun p e s m below meth c ls X hl hP => t_Model_newTerm X hM (fun pc ls H locs hd hP hS => g_vret X hP hS hd) ls _ [] hl hP va_S.rf)
end
