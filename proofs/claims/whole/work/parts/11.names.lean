/-! printed by wip/whole/gen/gen.py -/
section
variable {p : Program} {l : Launch} {e : Env} {R : Room} {s : State} {m : MethodId} {args : Array Value} {below : List Frame} {meth : Method} {c : Code} {Q : State → Prop} {H0 : Heap} {cells slots : Nat} {cy : Nat → ClassId} {D : va_G} {ρ : Nat → Nat} {A : Nat → Prop}
def y_Text_addFour : MethodName := ⟨"TermDesk$Text", "addFour", "(I)V"⟩
theorem gi_Text_addFour : gMi y_Text_addFour prog_10_method_2_code 3 none 1 2 := ⟨(gWs_at 695 (by decide +kernel) (by decide +kernel)), (gWs_at 694 (by decide +kernel) (by decide +kernel)), (gWs_at 31 (by decide +kernel) (by decide +kernel)), (gWs_at 119 (by decide +kernel) (by decide +kernel)), ⟨by decide +kernel, by decide +kernel, by decide +kernel⟩, _, _, rfl⟩
theorem gm_Desk_64 : gMk "TermDesk" 64 y_Text_addFour := Or.inr ⟨"TermDesk", gNs_at 692 (by decide +kernel) (by decide +kernel)⟩
theorem d_Text_addFour_0 : decode prog_10_method_2_code 0 = .ok (.bipush 24, 2) := by decide +kernel
theorem d_Text_addFour_2 : decode prog_10_method_2_code 2 = .ok (.istore_n 2, 1) := by decide +kernel
theorem d_Text_addFour_3 : decode prog_10_method_2_code 3 = .ok (.iload_n 2, 1) := by decide +kernel
theorem d_Text_addFour_4 : decode prog_10_method_2_code 4 = .ok (.ifCond .lt 32, 3) := by decide +kernel
theorem d_Text_addFour_7 : decode prog_10_method_2_code 7 = .ok (.aload_n 0, 1) := by decide +kernel
theorem d_Text_addFour_8 : decode prog_10_method_2_code 8 = .ok (.getfield 10, 3) := by decide +kernel
theorem d_Text_addFour_11 : decode prog_10_method_2_code 11 = .ok (.aload_n 0, 1) := by decide +kernel
theorem d_Text_addFour_12 : decode prog_10_method_2_code 12 = .ok (.getfield 16, 3) := by decide +kernel
theorem d_Text_addFour_15 : decode prog_10_method_2_code 15 = .ok (.iload_n 1, 1) := by decide +kernel
theorem d_Text_addFour_16 : decode prog_10_method_2_code 16 = .ok (.iload_n 2, 1) := by decide +kernel
theorem d_Text_addFour_17 : decode prog_10_method_2_code 17 = .ok (.ishr, 1) := by decide +kernel
theorem d_Text_addFour_18 : decode prog_10_method_2_code 18 = .ok (.i2b, 1) := by decide +kernel
theorem d_Text_addFour_19 : decode prog_10_method_2_code 19 = .ok (.bastore, 1) := by decide +kernel
theorem d_Text_addFour_20 : decode prog_10_method_2_code 20 = .ok (.aload_n 0, 1) := by decide +kernel
theorem d_Text_addFour_21 : decode prog_10_method_2_code 21 = .ok (.dup, 1) := by decide +kernel
theorem d_Text_addFour_22 : decode prog_10_method_2_code 22 = .ok (.getfield 16, 3) := by decide +kernel
theorem d_Text_addFour_25 : decode prog_10_method_2_code 25 = .ok (.iconst 1, 1) := by decide +kernel
theorem d_Text_addFour_26 : decode prog_10_method_2_code 26 = .ok (.iadd, 1) := by decide +kernel
theorem d_Text_addFour_27 : decode prog_10_method_2_code 27 = .ok (.putfield 16, 3) := by decide +kernel
theorem d_Text_addFour_30 : decode prog_10_method_2_code 30 = .ok (.iinc 2 (-8), 3) := by decide +kernel
theorem d_Text_addFour_33 : decode prog_10_method_2_code 33 = .ok (.goto (-30), 3) := by decide +kernel
theorem d_Text_addFour_36 : decode prog_10_method_2_code 36 = .ok (.return_, 1) := by decide +kernel
noncomputable def M_Text_addFour_b3 (x1 : Int32) (x2 : Int32) (u : gSt) : Option ((Int32 × Int32 × gSt) ⊕ ((gSt))) :=
  if x2 < (0 : Int32) then
    (some (.inr u))
  else
    (gc (gIn (u.1 2 1) (gLen 3)) <| (some (gsA u 3 (gIx (u.1 2 1)) (((x1 >>> (x2 &&& (31 : Int32))).toInt8.toInt32).toInt8.toInt32))).bind fun u19 =>
    (some (gsF u19 2 1 ((u19.1 2 1) + (1 : Int32)))).bind fun u27 =>
    some (.inl (x1, x2 + (-8 : Int32), u27)))
set_option maxHeartbeats 4000000 in
set_option maxRecDepth 100000 in
theorem t_Text_addFour_b3 (C : gX "TermDesk$Text" prog_10_method_2_code 3 none 0 0 R cells slots cy D ρ A p s m args meth c) {x1 : Int32} {x2 : Int32} {u : gSt} {z : (Int32 × Int32 × gSt) ⊕ ((gSt))} (hM : M_Text_addFour_b3 x1 x2 u = some z) (hN : ∀ x1' x2' u', z = .inl (x1', x2', u') → gAt p l e R s m args below meth c Q H0 cells slots cy D ρ A 3 3 [(0, .ref (ρ 2)), (1, .int (x1')), (2, .int (x2'))] [] (u')) (hE0 : ∀ u', z = .inr u' → gAt p l e R s m args below meth c Q H0 cells slots cy D ρ A 3 36 [] [] (u')) : gAt p l e R s m args below meth c Q H0 cells slots cy D ρ A 3 3 [(0, .ref (ρ 2)), (1, .int x1), (2, .int x2)] [] u := by
  intro ls H locs hl hP hS
  have hx := C.1
  have hb := C.2.1
  unfold M_Text_addFour_b3 at hM
  refine lv_iload_n hx hb d_Text_addFour_3 rfl (lv_at hl 2 rfl) ?_
  refine lv_if_lt (tgt := 36) hx hb d_Text_addFour_4 (by decide) (fun hc4 => ?_) (fun hc4 => ?_)
  · replace hM := gi_t hc4 hM
    exact hE0 _ (Option.some.inj hM).symm ls H locs (lv_sub hl [] rfl) hP hS
  · replace hM := gi_f hc4 hM
    refine lv_aload_n hx hb d_Text_addFour_7 rfl (lv_at hl 0 rfl) ?_
    refine g_getR (b := 3) C hP gl_Text_10 rfl rfl rfl d_Text_addFour_8 ?_
    refine lv_aload_n hx hb d_Text_addFour_11 rfl (lv_at hl 0 rfl) ?_
    refine g_getI C hP gl_Text_16 rfl rfl d_Text_addFour_12 ?_
    refine lv_iload_n hx hb d_Text_addFour_15 rfl (lv_at hl 1 rfl) ?_
    refine lv_iload_n hx hb d_Text_addFour_16 rfl (lv_at hl 2 rfl) ?_
    refine lv_ishr hx hb d_Text_addFour_17 ?_
    refine lv_i2b (v := (x1 >>> (x2 &&& (31 : Int32))).toInt8.toInt32) hx hb d_Text_addFour_18 rfl ?_
    obtain ⟨hi19, hM⟩ := gc_some hM
    obtain ⟨u19, e19, hM⟩ := gb_some hM
    refine g_bast C hP hS rfl hi19 d_Text_addFour_19 (fun H locs hP hS => ?_)
    rw [Option.some.inj e19] at hP
    refine lv_aload_n hx hb d_Text_addFour_20 rfl (lv_at hl 0 rfl) ?_
    refine lv_dup hx hb d_Text_addFour_21 rfl ?_
    refine g_getI C hP gl_Text_16 rfl rfl d_Text_addFour_22 ?_
    refine lv_iconst (v := (1 : Int32)) hx hb d_Text_addFour_25 (by decide) ?_
    refine lv_iadd hx hb d_Text_addFour_26 ?_
    obtain ⟨u27, e27, hM⟩ := gb_some hM
    refine g_putI C hP hS gl_Text_16 rfl rfl gq_2_1 d_Text_addFour_27 (fun H locs hP hS => ?_)
    rw [Option.some.inj e27] at hP
    refine lv_iinc (k := 2) (v := x2 + (-8 : Int32)) (lv' := [(2, .int (x2 + (-8 : Int32))), (0, .ref (ρ 2)), (1, .int x1)]) hx hb d_Text_addFour_30 hl rfl (congrArg (fun z => x2 + z) (by decide)) (by decide) rfl (fun ls hl => ?_)
    refine lv_goto (tgt := 3) hx hb d_Text_addFour_33 (by decide) ?_
    exact hN _ _ _ (Option.some.inj hM).symm ls H locs (lv_sub hl [1, 2, 0] rfl) hP hS
noncomputable def M_Text_addFour_L3 : (Int32 × Int32 × gSt) → Option ((Int32 × Int32 × gSt) ⊕ ((gSt))) := fun x => M_Text_addFour_b3 x.1 x.2.1 x.2.2
theorem t_Text_addFour_L3 (C : gX "TermDesk$Text" prog_10_method_2_code 3 none 0 0 R cells slots cy D ρ A p s m args meth c) {x1 : Int32} {x2 : Int32} {u : gSt} {yy : (gSt)} (hL : gLp M_Text_addFour_L3 (x1, x2, u) = some yy) (hE0 : (∀ y', yy = y' → gAt p l e R s m args below meth c Q H0 cells slots cy D ρ A 3 36 [] [] (y'))) : gAt p l e R s m args below meth c Q H0 cells slots cy D ρ A 3 3 [(0, .ref (ρ 2)), (1, .int x1), (2, .int x2)] [] u :=
  g_loop (f := M_Text_addFour_L3) (P := fun x => gAt p l e R s m args below meth c Q H0 cells slots cy D ρ A 3 3 [(0, .ref (ρ 2)), (1, .int x.1), (2, .int x.2.1)] [] x.2.2) (E := fun yy => (∀ y', yy = y' → gAt p l e R s m args below meth c Q H0 cells slots cy D ρ A 3 36 [] [] (y'))) (fun x z hf hN hE => t_Text_addFour_b3 C hf (fun x1' x2' u' h => hN (x1', x2', u') h) (fun u' h => (hE _ h) u' rfl)) hL hE0
noncomputable def M_Text_addFour (x1 : Int32) (u : gSt) : Option (gSt) :=
  (gLp M_Text_addFour_L3 (x1, (24 : Int32), u)).bind fun y3 =>
  some y3
set_option maxHeartbeats 4000000 in
set_option maxRecDepth 100000 in
theorem t_Text_addFour (C : gX "TermDesk$Text" prog_10_method_2_code 3 none 0 0 R cells slots cy D ρ A p s m args meth c) {x1 : Int32} {u : gSt} {z : gSt} (hM : M_Text_addFour x1 u = some z) (hR : gRtV p l e R s m args below meth c Q H0 cells slots cy D ρ A prog_10_method_2_code z) : gAt p l e R s m args below meth c Q H0 cells slots cy D ρ A 3 0 [(0, .ref (ρ 2)), (1, .int x1)] [] u := by
  intro ls H locs hl hP hS
  have hx := C.1
  have hb := C.2.1
  unfold M_Text_addFour at hM
  refine lv_bipush (v := (24 : Int32)) hx hb d_Text_addFour_0 (by decide) ?_
  refine lv_istore_n (lv' := [(2, .int (24 : Int32)), (0, .ref (ρ 2)), (1, .int x1)]) hx hb d_Text_addFour_2 rfl hl (by decide) rfl (fun ls hl => ?_)
  obtain ⟨y3, hL3, hM⟩ := gb_some hM
  refine t_Text_addFour_L3 C hL3 (fun y3_0 hy => ?_) ls H locs (lv_sub hl [1, 2, 0] rfl) hP hS
  · subst hy
    intro ls H locs hl hP hS
    obtain rfl := Option.some.inj hM
    exact hR _ ls H locs d_Text_addFour_36 hP hS
theorem c_Text_addFour {l : Launch} {cy : Nat → ClassId} {D : va_G} {ρ : Nat → Nat} {A : Nat → Prop} (hD : gD ρ A) {x1 : Int32} {u : gSt} {z : gSt} (hM : M_Text_addFour x1 u = some z) : gCtV l y_Text_addFour prog_10_method_2_code 3 none 0 0 cy D ρ A [.ref (ρ 2), .int x1] u z :=
  g_met (by decide) hD (Nat.le_of_ble_eq_true rfl) (fun p e s m below meth c ls X hl hP => t_Text_addFour X hM (fun pc ls H locs hd hP hS => g_vret X hP hS hd) ls _ [] hl hP va_S.rf)
end
section
variable {p : Program} {l : Launch} {e : Env} {R : Room} {s : State} {m : MethodId} {args : Array Value} {below : List Frame} {meth : Method} {c : Code} {Q : State → Prop} {H0 : Heap} {cells slots : Nat} {cy : Nat → ClassId} {D : va_G} {ρ : Nat → Nat} {A : Nat → Prop}
def y_Text_openLine : MethodName := ⟨"TermDesk$Text", "openLine", "(I)V"⟩
theorem gi_Text_openLine : gMi y_Text_openLine prog_10_method_3_code 2 none 1 2 := ⟨(gWs_at 426 (by decide +kernel) (by decide +kernel)), (gWs_at 425 (by decide +kernel) (by decide +kernel)), (gWs_at 1 (by decide +kernel) (by decide +kernel)), (gWs_at 119 (by decide +kernel) (by decide +kernel)), ⟨by decide +kernel, by decide +kernel, by decide +kernel⟩, _, _, rfl⟩
theorem gm_Clerk_49 : gMk "TermDesk$Clerk" 49 y_Text_openLine := Or.inr ⟨"TermDesk", gNs_at 423 (by decide +kernel) (by decide +kernel)⟩
theorem d_Text_openLine_0 : decode prog_10_method_3_code 0 = .ok (.aload_n 0, 1) := by decide +kernel
theorem d_Text_openLine_1 : decode prog_10_method_3_code 1 = .ok (.iload_n 1, 1) := by decide +kernel
theorem d_Text_openLine_2 : decode prog_10_method_3_code 2 = .ok (.putfield 20, 3) := by decide +kernel
theorem d_Text_openLine_5 : decode prog_10_method_3_code 5 = .ok (.aload_n 0, 1) := by decide +kernel
theorem d_Text_openLine_6 : decode prog_10_method_3_code 6 = .ok (.iload_n 1, 1) := by decide +kernel
theorem d_Text_openLine_7 : decode prog_10_method_3_code 7 = .ok (.putfield 23, 3) := by decide +kernel
theorem d_Text_openLine_10 : decode prog_10_method_3_code 10 = .ok (.aload_n 0, 1) := by decide +kernel
theorem d_Text_openLine_11 : decode prog_10_method_3_code 11 = .ok (.getfield 23, 3) := by decide +kernel
theorem d_Text_openLine_14 : decode prog_10_method_3_code 14 = .ok (.aload_n 0, 1) := by decide +kernel
theorem d_Text_openLine_15 : decode prog_10_method_3_code 15 = .ok (.getfield 16, 3) := by decide +kernel
theorem d_Text_openLine_18 : decode prog_10_method_3_code 18 = .ok (.if_icmp .ge 30, 3) := by decide +kernel
theorem d_Text_openLine_21 : decode prog_10_method_3_code 21 = .ok (.aload_n 0, 1) := by decide +kernel
theorem d_Text_openLine_22 : decode prog_10_method_3_code 22 = .ok (.getfield 10, 3) := by decide +kernel
theorem d_Text_openLine_25 : decode prog_10_method_3_code 25 = .ok (.aload_n 0, 1) := by decide +kernel
theorem d_Text_openLine_26 : decode prog_10_method_3_code 26 = .ok (.getfield 23, 3) := by decide +kernel
theorem d_Text_openLine_29 : decode prog_10_method_3_code 29 = .ok (.baload, 1) := by decide +kernel
theorem d_Text_openLine_30 : decode prog_10_method_3_code 30 = .ok (.bipush 10, 2) := by decide +kernel
theorem d_Text_openLine_32 : decode prog_10_method_3_code 32 = .ok (.if_icmp .eq 16, 3) := by decide +kernel
theorem d_Text_openLine_35 : decode prog_10_method_3_code 35 = .ok (.aload_n 0, 1) := by decide +kernel
theorem d_Text_openLine_36 : decode prog_10_method_3_code 36 = .ok (.dup, 1) := by decide +kernel
theorem d_Text_openLine_37 : decode prog_10_method_3_code 37 = .ok (.getfield 23, 3) := by decide +kernel
theorem d_Text_openLine_40 : decode prog_10_method_3_code 40 = .ok (.iconst 1, 1) := by decide +kernel
theorem d_Text_openLine_41 : decode prog_10_method_3_code 41 = .ok (.iadd, 1) := by decide +kernel
theorem d_Text_openLine_42 : decode prog_10_method_3_code 42 = .ok (.putfield 23, 3) := by decide +kernel
theorem d_Text_openLine_45 : decode prog_10_method_3_code 45 = .ok (.goto (-35), 3) := by decide +kernel
theorem d_Text_openLine_48 : decode prog_10_method_3_code 48 = .ok (.aload_n 0, 1) := by decide +kernel
theorem d_Text_openLine_49 : decode prog_10_method_3_code 49 = .ok (.iload_n 1, 1) := by decide +kernel
theorem d_Text_openLine_50 : decode prog_10_method_3_code 50 = .ok (.putfield 26, 3) := by decide +kernel
theorem d_Text_openLine_53 : decode prog_10_method_3_code 53 = .ok (.aload_n 0, 1) := by decide +kernel
theorem d_Text_openLine_54 : decode prog_10_method_3_code 54 = .ok (.iload_n 1, 1) := by decide +kernel
theorem d_Text_openLine_55 : decode prog_10_method_3_code 55 = .ok (.iconst 1, 1) := by decide +kernel
theorem d_Text_openLine_56 : decode prog_10_method_3_code 56 = .ok (.isub, 1) := by decide +kernel
theorem d_Text_openLine_57 : decode prog_10_method_3_code 57 = .ok (.putfield 29, 3) := by decide +kernel
theorem d_Text_openLine_60 : decode prog_10_method_3_code 60 = .ok (.return_, 1) := by decide +kernel
noncomputable def M_Text_openLine_b10 (x1 : Int32) (u : gSt) : Option ((Int32 × gSt) ⊕ ((Int32 × gSt))) :=
  if (u.1 2 1) ≤ (u.1 2 3) then
    (some (.inr (x1, u)))
  else
    (gc (gIn (u.1 2 3) (gLen 3)) <| if (u.2.2.1 3 (gIx (u.1 2 3))) = (10 : Int32) then
      (some (.inr (x1, u)))
    else
      ((some (gsF u 2 3 ((u.1 2 3) + (1 : Int32)))).bind fun u42 =>
      some (.inl (x1, u42))))
set_option maxHeartbeats 4000000 in
set_option maxRecDepth 100000 in
theorem t_Text_openLine_b10 (C : gX "TermDesk$Text" prog_10_method_3_code 2 none 0 0 R cells slots cy D ρ A p s m args meth c) {x1 : Int32} {u : gSt} {z : (Int32 × gSt) ⊕ ((Int32 × gSt))} (hM : M_Text_openLine_b10 x1 u = some z) (hN : ∀ x1' u', z = .inl (x1', u') → gAt p l e R s m args below meth c Q H0 cells slots cy D ρ A 2 10 [(0, .ref (ρ 2)), (1, .int (x1'))] [] (u')) (hE0 : ∀ x1' u', z = .inr (x1', u') → gAt p l e R s m args below meth c Q H0 cells slots cy D ρ A 2 48 [(0, .ref (ρ 2)), (1, .int (x1'))] [] (u')) : gAt p l e R s m args below meth c Q H0 cells slots cy D ρ A 2 10 [(0, .ref (ρ 2)), (1, .int x1)] [] u := by
  intro ls H locs hl hP hS
  have hx := C.1
  have hb := C.2.1
  unfold M_Text_openLine_b10 at hM
  refine lv_aload_n hx hb d_Text_openLine_10 rfl (lv_at hl 0 rfl) ?_
  refine g_getI C hP gl_Text_23 rfl rfl d_Text_openLine_11 ?_
  refine lv_aload_n hx hb d_Text_openLine_14 rfl (lv_at hl 0 rfl) ?_
  refine g_getI C hP gl_Text_16 rfl rfl d_Text_openLine_15 ?_
  refine lv_icmp_ge (tgt := 48) hx hb d_Text_openLine_18 (by decide) (fun hc18 => ?_) (fun hc18 => ?_)
  · replace hM := gi_t hc18 hM
    exact hE0 _ _ (Option.some.inj hM).symm ls H locs (lv_sub hl [0, 1] rfl) hP hS
  · replace hM := gi_f hc18 hM
    refine lv_aload_n hx hb d_Text_openLine_21 rfl (lv_at hl 0 rfl) ?_
    refine g_getR (b := 3) C hP gl_Text_10 rfl rfl rfl d_Text_openLine_22 ?_
    refine lv_aload_n hx hb d_Text_openLine_25 rfl (lv_at hl 0 rfl) ?_
    refine g_getI C hP gl_Text_23 rfl rfl d_Text_openLine_26 ?_
    obtain ⟨hi29, hM⟩ := gc_some hM
    refine g_bald C hP rfl hi29 d_Text_openLine_29 ?_
    refine lv_bipush (v := (10 : Int32)) hx hb d_Text_openLine_30 (by decide) ?_
    refine lv_icmp_eq (tgt := 48) hx hb d_Text_openLine_32 (by decide) (fun hc32 => ?_) (fun hc32 => ?_)
    · replace hM := gi_t hc32 hM
      exact hE0 _ _ (Option.some.inj hM).symm ls H locs (lv_sub hl [0, 1] rfl) hP hS
    · replace hM := gi_f hc32 hM
      refine lv_aload_n hx hb d_Text_openLine_35 rfl (lv_at hl 0 rfl) ?_
      refine lv_dup hx hb d_Text_openLine_36 rfl ?_
      refine g_getI C hP gl_Text_23 rfl rfl d_Text_openLine_37 ?_
      refine lv_iconst (v := (1 : Int32)) hx hb d_Text_openLine_40 (by decide) ?_
      refine lv_iadd hx hb d_Text_openLine_41 ?_
      obtain ⟨u42, e42, hM⟩ := gb_some hM
      refine g_putI C hP hS gl_Text_23 rfl rfl gq_2_3 d_Text_openLine_42 (fun H locs hP hS => ?_)
      rw [Option.some.inj e42] at hP
      refine lv_goto (tgt := 10) hx hb d_Text_openLine_45 (by decide) ?_
      exact hN _ _ (Option.some.inj hM).symm ls H locs (lv_sub hl [0, 1] rfl) hP hS
noncomputable def M_Text_openLine_L10 : (Int32 × gSt) → Option ((Int32 × gSt) ⊕ ((Int32 × gSt))) := fun x => M_Text_openLine_b10 x.1 x.2
theorem t_Text_openLine_L10 (C : gX "TermDesk$Text" prog_10_method_3_code 2 none 0 0 R cells slots cy D ρ A p s m args meth c) {x1 : Int32} {u : gSt} {yy : (Int32 × gSt)} (hL : gLp M_Text_openLine_L10 (x1, u) = some yy) (hE0 : (∀ y', yy = y' → gAt p l e R s m args below meth c Q H0 cells slots cy D ρ A 2 48 [(0, .ref (ρ 2)), (1, .int (y'.1))] [] (y'.2))) : gAt p l e R s m args below meth c Q H0 cells slots cy D ρ A 2 10 [(0, .ref (ρ 2)), (1, .int x1)] [] u :=
  g_loop (f := M_Text_openLine_L10) (P := fun x => gAt p l e R s m args below meth c Q H0 cells slots cy D ρ A 2 10 [(0, .ref (ρ 2)), (1, .int x.1)] [] x.2) (E := fun yy => (∀ y', yy = y' → gAt p l e R s m args below meth c Q H0 cells slots cy D ρ A 2 48 [(0, .ref (ρ 2)), (1, .int (y'.1))] [] (y'.2))) (fun x z hf hN hE => t_Text_openLine_b10 C hf (fun x1' u' h => hN (x1', u') h) (fun x1' u' h => (hE _ h) (x1', u') rfl)) hL hE0
noncomputable def M_Text_openLine (x1 : Int32) (u : gSt) : Option (gSt) :=
  (some (gsF u 2 2 x1)).bind fun u2 =>
  (some (gsF u2 2 3 x1)).bind fun u7 =>
  (gLp M_Text_openLine_L10 (x1, u7)).bind fun y10 =>
  (some (gsF y10.2 2 4 y10.1)).bind fun u50 =>
  (some (gsF u50 2 5 (y10.1 - (1 : Int32)))).bind fun u57 =>
  some u57
set_option maxHeartbeats 4000000 in
set_option maxRecDepth 100000 in
theorem t_Text_openLine (C : gX "TermDesk$Text" prog_10_method_3_code 2 none 0 0 R cells slots cy D ρ A p s m args meth c) {x1 : Int32} {u : gSt} {z : gSt} (hM : M_Text_openLine x1 u = some z) (hR : gRtV p l e R s m args below meth c Q H0 cells slots cy D ρ A prog_10_method_3_code z) : gAt p l e R s m args below meth c Q H0 cells slots cy D ρ A 2 0 [(0, .ref (ρ 2)), (1, .int x1)] [] u := by
  intro ls H locs hl hP hS
  have hx := C.1
  have hb := C.2.1
  unfold M_Text_openLine at hM
  refine lv_aload_n hx hb d_Text_openLine_0 rfl (lv_at hl 0 rfl) ?_
  refine lv_iload_n hx hb d_Text_openLine_1 rfl (lv_at hl 1 rfl) ?_
  obtain ⟨u2, e2, hM⟩ := gb_some hM
  refine g_putI C hP hS gl_Text_20 rfl rfl gq_2_2 d_Text_openLine_2 (fun H locs hP hS => ?_)
  rw [Option.some.inj e2] at hP
  refine lv_aload_n hx hb d_Text_openLine_5 rfl (lv_at hl 0 rfl) ?_
  refine lv_iload_n hx hb d_Text_openLine_6 rfl (lv_at hl 1 rfl) ?_
  obtain ⟨u7, e7, hM⟩ := gb_some hM
  refine g_putI C hP hS gl_Text_23 rfl rfl gq_2_3 d_Text_openLine_7 (fun H locs hP hS => ?_)
  rw [Option.some.inj e7] at hP
  obtain ⟨y10, hL10, hM⟩ := gb_some hM
  refine t_Text_openLine_L10 C hL10 (fun y10_0 hy => ?_) ls H locs (lv_sub hl [0, 1] rfl) hP hS
  · subst hy
    intro ls H locs hl hP hS
    refine lv_aload_n hx hb d_Text_openLine_48 rfl (lv_at hl 0 rfl) ?_
    refine lv_iload_n hx hb d_Text_openLine_49 rfl (lv_at hl 1 rfl) ?_
    obtain ⟨u50, e50, hM⟩ := gb_some hM
    refine g_putI C hP hS gl_Text_26 rfl rfl gq_2_4 d_Text_openLine_50 (fun H locs hP hS => ?_)
    rw [Option.some.inj e50] at hP
    refine lv_aload_n hx hb d_Text_openLine_53 rfl (lv_at hl 0 rfl) ?_
    refine lv_iload_n hx hb d_Text_openLine_54 rfl (lv_at hl 1 rfl) ?_
    refine lv_iconst (v := (1 : Int32)) hx hb d_Text_openLine_55 (by decide) ?_
    refine lv_isub hx hb d_Text_openLine_56 ?_
    obtain ⟨u57, e57, hM⟩ := gb_some hM
    refine g_putI C hP hS gl_Text_29 rfl rfl gq_2_5 d_Text_openLine_57 (fun H locs hP hS => ?_)
    rw [Option.some.inj e57] at hP
    obtain rfl := Option.some.inj hM
    exact hR _ ls H locs d_Text_openLine_60 hP hS
theorem c_Text_openLine {l : Launch} {cy : Nat → ClassId} {D : va_G} {ρ : Nat → Nat} {A : Nat → Prop} (hD : gD ρ A) {x1 : Int32} {u : gSt} {z : gSt} (hM : M_Text_openLine x1 u = some z) : gCtV l y_Text_openLine prog_10_method_3_code 2 none 0 0 cy D ρ A [.ref (ρ 2), .int x1] u z :=
  g_met (by decide) hD (Nat.le_of_ble_eq_true rfl) (fun p e s m below meth c ls X hl hP => t_Text_openLine X hM (fun pc ls H locs hd hP hS => g_vret X hP hS hd) ls _ [] hl hP va_S.rf)
end
section
variable {p : Program} {l : Launch} {e : Env} {R : Room} {s : State} {m : MethodId} {args : Array Value} {below : List Frame} {meth : Method} {c : Code} {Q : State → Prop} {H0 : Heap} {cells slots : Nat} {cy : Nat → ClassId} {D : va_G} {ρ : Nat → Nat} {A : Nat → Prop}
def y_NameList_letterIn : MethodName := ⟨"TermDesk$NameList", "letterIn", "(JI)I"⟩
theorem gi_NameList_letterIn : gMs y_NameList_letterIn prog_7_method_6_code 4 (some .int) 2 := ⟨(gWs_at 836 (by decide +kernel) (by decide +kernel)), (gWs_at 835 (by decide +kernel) (by decide +kernel)), (gWs_at 121 (by decide +kernel) (by decide +kernel)), ⟨by decide +kernel, by decide +kernel, by decide +kernel⟩⟩
theorem gm_NameList_26 : gMk "TermDesk$NameList" 26 y_NameList_letterIn := Or.inl (gWs_at 834 (by decide +kernel) (by decide +kernel))
theorem d_NameList_letterIn_0 : decode prog_7_method_6_code 0 = .ok (.lload_n 0, 1) := by decide +kernel
theorem d_NameList_letterIn_1 : decode prog_7_method_6_code 1 = .ok (.bipush 8, 2) := by decide +kernel
theorem d_NameList_letterIn_3 : decode prog_7_method_6_code 3 = .ok (.iconst 5, 1) := by decide +kernel
theorem d_NameList_letterIn_4 : decode prog_7_method_6_code 4 = .ok (.iload_n 2, 1) := by decide +kernel
theorem d_NameList_letterIn_5 : decode prog_7_method_6_code 5 = .ok (.isub, 1) := by decide +kernel
theorem d_NameList_letterIn_6 : decode prog_7_method_6_code 6 = .ok (.imul, 1) := by decide +kernel
theorem d_NameList_letterIn_7 : decode prog_7_method_6_code 7 = .ok (.lshr, 1) := by decide +kernel
theorem d_NameList_letterIn_8 : decode prog_7_method_6_code 8 = .ok (.l2i, 1) := by decide +kernel
theorem d_NameList_letterIn_9 : decode prog_7_method_6_code 9 = .ok (.sipush 255, 3) := by decide +kernel
theorem d_NameList_letterIn_12 : decode prog_7_method_6_code 12 = .ok (.iand, 1) := by decide +kernel
theorem d_NameList_letterIn_13 : decode prog_7_method_6_code 13 = .ok (.istore_n 3, 1) := by decide +kernel
theorem d_NameList_letterIn_14 : decode prog_7_method_6_code 14 = .ok (.iload_n 3, 1) := by decide +kernel
theorem d_NameList_letterIn_15 : decode prog_7_method_6_code 15 = .ok (.ifCond .ne 7, 3) := by decide +kernel
theorem d_NameList_letterIn_18 : decode prog_7_method_6_code 18 = .ok (.iconst (-1), 1) := by decide +kernel
theorem d_NameList_letterIn_19 : decode prog_7_method_6_code 19 = .ok (.goto 4, 3) := by decide +kernel
theorem d_NameList_letterIn_22 : decode prog_7_method_6_code 22 = .ok (.iload_n 3, 1) := by decide +kernel
theorem d_NameList_letterIn_23 : decode prog_7_method_6_code 23 = .ok (.ireturn, 1) := by decide +kernel
noncomputable def M_NameList_letterIn_b23 (s0 : Int32) (u : gSt) : Option ((Int32 × gSt)) :=
  some (s0, u)
set_option maxHeartbeats 4000000 in
set_option maxRecDepth 100000 in
theorem t_NameList_letterIn_b23 (C : gX "TermDesk$NameList" prog_7_method_6_code 4 (some .int) 0 0 R cells slots cy D ρ A p s m args meth c) {s0 : Int32} {u : gSt} {z : (Int32 × gSt)} (hM : M_NameList_letterIn_b23 s0 u = some z) (hR : gRtI p l e R s m args below meth c Q H0 cells slots cy D ρ A prog_7_method_6_code z.1 z.2) : gAt p l e R s m args below meth c Q H0 cells slots cy D ρ A 4 23 [] [.int s0] u := by
  intro ls H locs hl hP hS
  have hx := C.1
  have hb := C.2.1
  unfold M_NameList_letterIn_b23 at hM
  obtain rfl := Option.some.inj hM
  exact hR _ ls H locs d_NameList_letterIn_23 hP hS
noncomputable def M_NameList_letterIn (y0 : Int64) (x2 : Int32) (u : gSt) : Option ((Int32 × gSt)) :=
  if (((y0 >>> (((8 : Int32) * ((5 : Int32) - x2)).toInt64 &&& (63 : Int64))).toInt32) &&& (255 : Int32)) = (0 : Int32) then
    (M_NameList_letterIn_b23 (-1 : Int32) u)
  else
    (M_NameList_letterIn_b23 (((y0 >>> (((8 : Int32) * ((5 : Int32) - x2)).toInt64 &&& (63 : Int64))).toInt32) &&& (255 : Int32)) u)
set_option maxHeartbeats 4000000 in
set_option maxRecDepth 100000 in
theorem t_NameList_letterIn (C : gX "TermDesk$NameList" prog_7_method_6_code 4 (some .int) 0 0 R cells slots cy D ρ A p s m args meth c) {y0 : Int64} {x2 : Int32} {u : gSt} {z : (Int32 × gSt)} (hM : M_NameList_letterIn y0 x2 u = some z) (hR : gRtI p l e R s m args below meth c Q H0 cells slots cy D ρ A prog_7_method_6_code z.1 z.2) : gAt p l e R s m args below meth c Q H0 cells slots cy D ρ A 4 0 [(0, .long y0), (2, .int x2)] [] u := by
  intro ls H locs hl hP hS
  have hx := C.1
  have hb := C.2.1
  unfold M_NameList_letterIn at hM
  refine lv_lload_n hx hb d_NameList_letterIn_0 rfl (lv_at hl 0 rfl) ?_
  refine lv_bipush (v := (8 : Int32)) hx hb d_NameList_letterIn_1 (by decide) ?_
  refine lv_iconst (v := (5 : Int32)) hx hb d_NameList_letterIn_3 (by decide) ?_
  refine lv_iload_n hx hb d_NameList_letterIn_4 rfl (lv_at hl 1 rfl) ?_
  refine lv_isub hx hb d_NameList_letterIn_5 ?_
  refine lv_imul hx hb d_NameList_letterIn_6 ?_
  refine lv_lshr (v := y0 >>> (((8 : Int32) * ((5 : Int32) - x2)).toInt64 &&& (63 : Int64))) hx hb d_NameList_letterIn_7 rfl ?_
  refine lv_l2i (v := (y0 >>> (((8 : Int32) * ((5 : Int32) - x2)).toInt64 &&& (63 : Int64))).toInt32) hx hb d_NameList_letterIn_8 rfl ?_
  refine lv_sipush (v := (255 : Int32)) hx hb d_NameList_letterIn_9 (by decide) ?_
  refine lv_iand hx hb d_NameList_letterIn_12 ?_
  refine lv_istore_n (lv' := [(3, .int (((y0 >>> (((8 : Int32) * ((5 : Int32) - x2)).toInt64 &&& (63 : Int64))).toInt32) &&& (255 : Int32))), (0, .long y0), (2, .int x2)]) hx hb d_NameList_letterIn_13 rfl hl (by decide) rfl (fun ls hl => ?_)
  refine lv_iload_n hx hb d_NameList_letterIn_14 rfl (lv_at hl 0 rfl) ?_
  refine lv_if_ne (tgt := 22) hx hb d_NameList_letterIn_15 (by decide) (fun hc15 => ?_) (fun hc15 => ?_)
  · replace hM := gi_f hc15 hM
    refine lv_iload_n hx hb d_NameList_letterIn_22 rfl (lv_at hl 0 rfl) ?_
    exact t_NameList_letterIn_b23 C hM hR ls H locs (lv_sub hl [] rfl) hP hS
  · replace hM := gi_t hc15 hM
    refine lv_iconst (v := (-1 : Int32)) hx hb d_NameList_letterIn_18 (by decide) ?_
    refine lv_goto (tgt := 23) hx hb d_NameList_letterIn_19 (by decide) ?_
    exact t_NameList_letterIn_b23 C hM hR ls H locs (lv_sub hl [] rfl) hP hS
theorem c_NameList_letterIn {l : Launch} {cy : Nat → ClassId} {D : va_G} {ρ : Nat → Nat} {A : Nat → Prop} (hD : gD ρ A) {y0 : Int64} {x2 : Int32} {u : gSt} {z : (Int32 × gSt)} (hM : M_NameList_letterIn y0 x2 u = some z) : gCtI l y_NameList_letterIn prog_7_method_6_code 4 (some .int) 0 0 cy D ρ A [.long y0, .int x2] u z.1 z.2 :=
  g_met (by decide) hD (Nat.le_of_ble_eq_true rfl) (fun p e s m below meth c ls X hl hP => t_NameList_letterIn X hM (fun pc ls H locs hd hP hS => g_iret X hP hS hd) ls _ [] hl hP va_S.rf)
end
section
variable {p : Program} {l : Launch} {e : Env} {R : Room} {s : State} {m : MethodId} {args : Array Value} {below : List Frame} {meth : Method} {c : Code} {Q : State → Prop} {H0 : Heap} {cells slots : Nat} {cy : Nat → ClassId} {D : va_G} {ρ : Nat → Nat} {A : Nat → Prop}
def y_NameList_letterOf : MethodName := ⟨"TermDesk$NameList", "letterOf", "(II)I"⟩
theorem gi_NameList_letterOf : gMi y_NameList_letterOf prog_7_method_5_code 4 (some .int) 2 4 := ⟨(gWs_at 833 (by decide +kernel) (by decide +kernel)), (gWs_at 832 (by decide +kernel) (by decide +kernel)), (gWs_at 44 (by decide +kernel) (by decide +kernel)), (gWs_at 121 (by decide +kernel) (by decide +kernel)), ⟨by decide +kernel, by decide +kernel, by decide +kernel⟩, _, _, rfl⟩
theorem gm_Desk_165 : gMk "TermDesk" 165 y_NameList_letterOf := Or.inr ⟨"TermDesk", gNs_at 830 (by decide +kernel) (by decide +kernel)⟩
theorem d_NameList_letterOf_0 : decode prog_7_method_5_code 0 = .ok (.iload_n 2, 1) := by decide +kernel
theorem d_NameList_letterOf_1 : decode prog_7_method_5_code 1 = .ok (.ifCond .lt 9, 3) := by decide +kernel
theorem d_NameList_letterOf_4 : decode prog_7_method_5_code 4 = .ok (.iload_n 2, 1) := by decide +kernel
theorem d_NameList_letterOf_5 : decode prog_7_method_5_code 5 = .ok (.bipush 12, 2) := by decide +kernel
theorem d_NameList_letterOf_7 : decode prog_7_method_5_code 7 = .ok (.if_icmp .lt 5, 3) := by decide +kernel
theorem d_NameList_letterOf_10 : decode prog_7_method_5_code 10 = .ok (.iconst (-1), 1) := by decide +kernel
theorem d_NameList_letterOf_11 : decode prog_7_method_5_code 11 = .ok (.ireturn, 1) := by decide +kernel
theorem d_NameList_letterOf_12 : decode prog_7_method_5_code 12 = .ok (.iconst 0, 1) := by decide +kernel
theorem d_NameList_letterOf_13 : decode prog_7_method_5_code 13 = .ok (.istore_n 3, 1) := by decide +kernel
theorem d_NameList_letterOf_14 : decode prog_7_method_5_code 14 = .ok (.iload_n 3, 1) := by decide +kernel
theorem d_NameList_letterOf_15 : decode prog_7_method_5_code 15 = .ok (.aload_n 0, 1) := by decide +kernel
theorem d_NameList_letterOf_16 : decode prog_7_method_5_code 16 = .ok (.getfield 9, 3) := by decide +kernel
theorem d_NameList_letterOf_19 : decode prog_7_method_5_code 19 = .ok (.if_icmp .ge 48, 3) := by decide +kernel
theorem d_NameList_letterOf_22 : decode prog_7_method_5_code 22 = .ok (.aload_n 0, 1) := by decide +kernel
theorem d_NameList_letterOf_23 : decode prog_7_method_5_code 23 = .ok (.getfield 22, 3) := by decide +kernel
theorem d_NameList_letterOf_26 : decode prog_7_method_5_code 26 = .ok (.iload_n 3, 1) := by decide +kernel
theorem d_NameList_letterOf_27 : decode prog_7_method_5_code 27 = .ok (.iaload, 1) := by decide +kernel
theorem d_NameList_letterOf_28 : decode prog_7_method_5_code 28 = .ok (.iload_n 1, 1) := by decide +kernel
theorem d_NameList_letterOf_29 : decode prog_7_method_5_code 29 = .ok (.if_icmp .ne 32, 3) := by decide +kernel
theorem d_NameList_letterOf_32 : decode prog_7_method_5_code 32 = .ok (.iload_n 2, 1) := by decide +kernel
theorem d_NameList_letterOf_33 : decode prog_7_method_5_code 33 = .ok (.bipush 6, 2) := by decide +kernel
theorem d_NameList_letterOf_35 : decode prog_7_method_5_code 35 = .ok (.if_icmp .ge 12, 3) := by decide +kernel
theorem d_NameList_letterOf_38 : decode prog_7_method_5_code 38 = .ok (.aload_n 0, 1) := by decide +kernel
theorem d_NameList_letterOf_39 : decode prog_7_method_5_code 39 = .ok (.getfield 15, 3) := by decide +kernel
theorem d_NameList_letterOf_42 : decode prog_7_method_5_code 42 = .ok (.iload_n 3, 1) := by decide +kernel
theorem d_NameList_letterOf_43 : decode prog_7_method_5_code 43 = .ok (.laload, 1) := by decide +kernel
theorem d_NameList_letterOf_44 : decode prog_7_method_5_code 44 = .ok (.goto 9, 3) := by decide +kernel
theorem d_NameList_letterOf_47 : decode prog_7_method_5_code 47 = .ok (.aload_n 0, 1) := by decide +kernel
theorem d_NameList_letterOf_48 : decode prog_7_method_5_code 48 = .ok (.getfield 19, 3) := by decide +kernel
theorem d_NameList_letterOf_51 : decode prog_7_method_5_code 51 = .ok (.iload_n 3, 1) := by decide +kernel
theorem d_NameList_letterOf_52 : decode prog_7_method_5_code 52 = .ok (.laload, 1) := by decide +kernel
theorem d_NameList_letterOf_53 : decode prog_7_method_5_code 53 = .ok (.iload_n 2, 1) := by decide +kernel
theorem d_NameList_letterOf_54 : decode prog_7_method_5_code 54 = .ok (.bipush 6, 2) := by decide +kernel
theorem d_NameList_letterOf_56 : decode prog_7_method_5_code 56 = .ok (.irem, 1) := by decide +kernel
theorem d_NameList_letterOf_57 : decode prog_7_method_5_code 57 = .ok (.invokestatic 26, 3) := by decide +kernel
theorem d_NameList_letterOf_60 : decode prog_7_method_5_code 60 = .ok (.ireturn, 1) := by decide +kernel
theorem d_NameList_letterOf_61 : decode prog_7_method_5_code 61 = .ok (.iinc 3 1, 3) := by decide +kernel
theorem d_NameList_letterOf_64 : decode prog_7_method_5_code 64 = .ok (.goto (-50), 3) := by decide +kernel
theorem d_NameList_letterOf_67 : decode prog_7_method_5_code 67 = .ok (.iconst (-1), 1) := by decide +kernel
theorem d_NameList_letterOf_68 : decode prog_7_method_5_code 68 = .ok (.ireturn, 1) := by decide +kernel
noncomputable def M_NameList_letterOf_b10 (u : gSt) : Option ((Int32 × gSt)) :=
  some ((-1 : Int32), u)
set_option maxHeartbeats 4000000 in
set_option maxRecDepth 100000 in
theorem t_NameList_letterOf_b10 (C : gX "TermDesk$NameList" prog_7_method_5_code 4 (some .int) 1 23 R cells slots cy D ρ A p s m args meth c) {u : gSt} {z : (Int32 × gSt)} (hM : M_NameList_letterOf_b10 u = some z) (hR : gRtI p l e R s m args below meth c Q H0 cells slots cy D ρ A prog_7_method_5_code z.1 z.2) : gAt p l e R s m args below meth c Q H0 cells slots cy D ρ A 4 10 [] [] u := by
  intro ls H locs hl hP hS
  have hx := C.1
  have hb := C.2.1
  unfold M_NameList_letterOf_b10 at hM
  refine lv_iconst (v := (-1 : Int32)) hx hb d_NameList_letterOf_10 (by decide) ?_
  obtain rfl := Option.some.inj hM
  exact hR _ ls H locs d_NameList_letterOf_11 hP hS
noncomputable def M_NameList_letterOf_b14 (a0 : Nat) (x1 : Int32) (x2 : Int32) (x3 : Int32) (u : gSt) : Option ((Nat × Int32 × Int32 × Int32 × gSt) ⊕ ((gSt) ⊕ (Nat × Int32 × Int32 × gSt))) :=
  gc (gK a0 == 4) <| if (u.1 a0 3) ≤ x3 then
    (some (.inr (.inl u)))
  else
    (gc (gK a0 == 4) <| (gFR a0 2).bind fun r23 => gc (gK r23 == 22) <| gc (gIn x3 (gLen r23)) <| if (u.2.2.1 r23 (gIx x3)) = x1 then
      (some (.inr (.inr (a0, x2, x3, u))))
    else
      (some (.inl (a0, x1, x2, x3 + (1 : Int32), u))))
set_option maxHeartbeats 4000000 in
set_option maxRecDepth 100000 in
theorem t_NameList_letterOf_b14 (C : gX "TermDesk$NameList" prog_7_method_5_code 4 (some .int) 1 23 R cells slots cy D ρ A p s m args meth c) {a0 : Nat} {x1 : Int32} {x2 : Int32} {x3 : Int32} {u : gSt} {z : (Nat × Int32 × Int32 × Int32 × gSt) ⊕ ((gSt) ⊕ (Nat × Int32 × Int32 × gSt))} (hM : M_NameList_letterOf_b14 a0 x1 x2 x3 u = some z) (hN : ∀ a0' x1' x2' x3' u', z = .inl (a0', x1', x2', x3', u') → gAt p l e R s m args below meth c Q H0 cells slots cy D ρ A 4 14 [(0, .ref (ρ (a0'))), (1, .int (x1')), (2, .int (x2')), (3, .int (x3'))] [] (u')) (hE0 : ∀ u', z = .inr (.inl u') → gAt p l e R s m args below meth c Q H0 cells slots cy D ρ A 4 67 [] [] (u')) (hE1 : ∀ a0' x2' x3' u', z = .inr (.inr (a0', x2', x3', u')) → gAt p l e R s m args below meth c Q H0 cells slots cy D ρ A 4 32 [(0, .ref (ρ (a0'))), (2, .int (x2')), (3, .int (x3'))] [] (u')) : gAt p l e R s m args below meth c Q H0 cells slots cy D ρ A 4 14 [(0, .ref (ρ a0)), (1, .int x1), (2, .int x2), (3, .int x3)] [] u := by
  intro ls H locs hl hP hS
  have hx := C.1
  have hb := C.2.1
  unfold M_NameList_letterOf_b14 at hM
  refine lv_iload_n hx hb d_NameList_letterOf_14 rfl (lv_at hl 3 rfl) ?_
  refine lv_aload_n hx hb d_NameList_letterOf_15 rfl (lv_at hl 0 rfl) ?_
  obtain ⟨h16, hM⟩ := gc_some hM
  refine g_getI C hP gl_NameList_9 (eq_of_beq h16) rfl d_NameList_letterOf_16 ?_
  refine lv_icmp_ge (tgt := 67) hx hb d_NameList_letterOf_19 (by decide) (fun hc19 => ?_) (fun hc19 => ?_)
  · replace hM := gi_t hc19 hM
    exact hE0 _ (Option.some.inj hM).symm ls H locs (lv_sub hl [] rfl) hP hS
  · replace hM := gi_f hc19 hM
    refine lv_aload_n hx hb d_NameList_letterOf_22 rfl (lv_at hl 0 rfl) ?_
    obtain ⟨h23, hM⟩ := gc_some hM
    obtain ⟨r23, hr23, hM⟩ := gb_some hM
    refine g_getR C hP gl_NameList_22 (eq_of_beq h23) rfl hr23 d_NameList_letterOf_23 ?_
    refine lv_iload_n hx hb d_NameList_letterOf_26 rfl (lv_at hl 3 rfl) ?_
    obtain ⟨h27, hM⟩ := gc_some hM
    obtain ⟨hi27, hM⟩ := gc_some hM
    refine g_iald C hP (eq_of_beq h27) hi27 d_NameList_letterOf_27 ?_
    refine lv_iload_n hx hb d_NameList_letterOf_28 rfl (lv_at hl 1 rfl) ?_
    refine lv_icmp_ne (tgt := 61) hx hb d_NameList_letterOf_29 (by decide) (fun hc29 => ?_) (fun hc29 => ?_)
    · replace hM := gi_f hc29 hM
      refine lv_iinc (k := 3) (v := x3 + (1 : Int32)) (lv' := [(3, .int (x3 + (1 : Int32))), (0, .ref (ρ a0)), (1, .int x1), (2, .int x2)]) hx hb d_NameList_letterOf_61 hl rfl (congrArg (fun z => x3 + z) (by decide)) (by decide) rfl (fun ls hl => ?_)
      refine lv_goto (tgt := 14) hx hb d_NameList_letterOf_64 (by decide) ?_
      exact hN _ _ _ _ _ (Option.some.inj hM).symm ls H locs (lv_sub hl [1, 2, 3, 0] rfl) hP hS
    · replace hM := gi_t hc29 hM
      exact hE1 _ _ _ _ (Option.some.inj hM).symm ls H locs (lv_sub hl [0, 2, 3] rfl) hP hS
noncomputable def M_NameList_letterOf_L14 : (Nat × Int32 × Int32 × Int32 × gSt) → Option ((Nat × Int32 × Int32 × Int32 × gSt) ⊕ ((gSt) ⊕ (Nat × Int32 × Int32 × gSt))) := fun x => M_NameList_letterOf_b14 x.1 x.2.1 x.2.2.1 x.2.2.2.1 x.2.2.2.2
theorem t_NameList_letterOf_L14 (C : gX "TermDesk$NameList" prog_7_method_5_code 4 (some .int) 1 23 R cells slots cy D ρ A p s m args meth c) {a0 : Nat} {x1 : Int32} {x2 : Int32} {x3 : Int32} {u : gSt} {yy : (gSt) ⊕ (Nat × Int32 × Int32 × gSt)} (hL : gLp M_NameList_letterOf_L14 (a0, x1, x2, x3, u) = some yy) (hE0 : (∀ y', yy = (.inl y') → gAt p l e R s m args below meth c Q H0 cells slots cy D ρ A 4 67 [] [] (y'))) (hE1 : (∀ y', yy = (.inr y') → gAt p l e R s m args below meth c Q H0 cells slots cy D ρ A 4 32 [(0, .ref (ρ (y'.1))), (2, .int (y'.2.1)), (3, .int (y'.2.2.1))] [] (y'.2.2.2))) : gAt p l e R s m args below meth c Q H0 cells slots cy D ρ A 4 14 [(0, .ref (ρ a0)), (1, .int x1), (2, .int x2), (3, .int x3)] [] u :=
  g_loop (f := M_NameList_letterOf_L14) (P := fun x => gAt p l e R s m args below meth c Q H0 cells slots cy D ρ A 4 14 [(0, .ref (ρ x.1)), (1, .int x.2.1), (2, .int x.2.2.1), (3, .int x.2.2.2.1)] [] x.2.2.2.2) (E := fun yy => (∀ y', yy = (.inl y') → gAt p l e R s m args below meth c Q H0 cells slots cy D ρ A 4 67 [] [] (y')) ∧ (∀ y', yy = (.inr y') → gAt p l e R s m args below meth c Q H0 cells slots cy D ρ A 4 32 [(0, .ref (ρ (y'.1))), (2, .int (y'.2.1)), (3, .int (y'.2.2.1))] [] (y'.2.2.2))) (fun x z hf hN hE => t_NameList_letterOf_b14 C hf (fun a0' x1' x2' x3' u' h => hN (a0', x1', x2', x3', u') h) (fun u' h => (hE _ h).1 u' rfl) (fun a0' x2' x3' u' h => (hE _ h).2 (a0', x2', x3', u') rfl)) hL ⟨hE0, hE1⟩
noncomputable def M_NameList_letterOf_b53 (x2 : Int32) (s0 : Int64) (u : gSt) : Option ((Int32 × gSt)) :=
  (M_NameList_letterIn s0 (x2 - x2 / (6 : Int32) * (6 : Int32)) u).bind fun q57 =>
  some (q57.1, q57.2)
set_option maxHeartbeats 4000000 in
set_option maxRecDepth 100000 in
theorem t_NameList_letterOf_b53 (C : gX "TermDesk$NameList" prog_7_method_5_code 4 (some .int) 1 23 R cells slots cy D ρ A p s m args meth c) {x2 : Int32} {s0 : Int64} {u : gSt} {z : (Int32 × gSt)} (hM : M_NameList_letterOf_b53 x2 s0 u = some z) (hR : gRtI p l e R s m args below meth c Q H0 cells slots cy D ρ A prog_7_method_5_code z.1 z.2) : gAt p l e R s m args below meth c Q H0 cells slots cy D ρ A 4 53 [(2, .int x2)] [.long s0] u := by
  intro ls H locs hl hP hS
  have hx := C.1
  have hb := C.2.1
  unfold M_NameList_letterOf_b53 at hM
  refine lv_iload_n hx hb d_NameList_letterOf_53 rfl (lv_at hl 0 rfl) ?_
  refine lv_bipush (v := (6 : Int32)) hx hb d_NameList_letterOf_54 (by decide) ?_
  refine lv_irem hx hb d_NameList_letterOf_56 (by decide) ?_
  obtain ⟨q57, hq57, hM⟩ := gb_some hM
  refine g_backI (g_runS (As := [.long s0, .int (x2 - x2 / (6 : Int32) * (6 : Int32))]) C hP (c_NameList_letterIn C.2.2.2.2.2.2.2.2.1 hq57) gi_NameList_letterIn gm_NameList_26 rfl (by decide) (by decide) hl.1 rfl (Nat.le_of_ble_eq_true rfl) d_NameList_letterOf_57) hS (fun H locs hP hS => ?_)
  obtain rfl := Option.some.inj hM
  exact hR _ ls H locs d_NameList_letterOf_60 hP hS
noncomputable def M_NameList_letterOf (a0 : Nat) (x1 : Int32) (x2 : Int32) (u : gSt) : Option ((Int32 × gSt)) :=
  if x2 < (0 : Int32) then
    (M_NameList_letterOf_b10 u)
  else
    (if x2 < (12 : Int32) then
      ((gLp M_NameList_letterOf_L14 (a0, x1, x2, (0 : Int32), u)).bind fun y14 =>
      (Sum.elim (fun y14_0 => some ((-1 : Int32), y14_0)) (fun y14_1 => if (6 : Int32) ≤ y14_1.2.1 then
        (gc (gK y14_1.1 == 4) <| (gFR y14_1.1 1).bind fun r48 => gc (gK r48 == 24) <| gc (gIn y14_1.2.2.1 (gLen r48)) <| M_NameList_letterOf_b53 y14_1.2.1 (y14_1.2.2.2.2.2.2 r48 (gIx y14_1.2.2.1)) y14_1.2.2.2)
      else
        (gc (gK y14_1.1 == 4) <| (gFR y14_1.1 0).bind fun r39 => gc (gK r39 == 24) <| gc (gIn y14_1.2.2.1 (gLen r39)) <| M_NameList_letterOf_b53 y14_1.2.1 (y14_1.2.2.2.2.2.2 r39 (gIx y14_1.2.2.1)) y14_1.2.2.2))) y14)
    else
      (M_NameList_letterOf_b10 u))
set_option maxHeartbeats 4000000 in
set_option maxRecDepth 100000 in
theorem t_NameList_letterOf (C : gX "TermDesk$NameList" prog_7_method_5_code 4 (some .int) 1 23 R cells slots cy D ρ A p s m args meth c) {a0 : Nat} {x1 : Int32} {x2 : Int32} {u : gSt} {z : (Int32 × gSt)} (hM : M_NameList_letterOf a0 x1 x2 u = some z) (hR : gRtI p l e R s m args below meth c Q H0 cells slots cy D ρ A prog_7_method_5_code z.1 z.2) : gAt p l e R s m args below meth c Q H0 cells slots cy D ρ A 4 0 [(0, .ref (ρ a0)), (1, .int x1), (2, .int x2)] [] u := by
  intro ls H locs hl hP hS
  have hx := C.1
  have hb := C.2.1
  unfold M_NameList_letterOf at hM
  refine lv_iload_n hx hb d_NameList_letterOf_0 rfl (lv_at hl 2 rfl) ?_
  refine lv_if_lt (tgt := 10) hx hb d_NameList_letterOf_1 (by decide) (fun hc1 => ?_) (fun hc1 => ?_)
  · replace hM := gi_t hc1 hM
    exact t_NameList_letterOf_b10 C hM hR ls H locs (lv_sub hl [] rfl) hP hS
  · replace hM := gi_f hc1 hM
    refine lv_iload_n hx hb d_NameList_letterOf_4 rfl (lv_at hl 2 rfl) ?_
    refine lv_bipush (v := (12 : Int32)) hx hb d_NameList_letterOf_5 (by decide) ?_
    refine lv_icmp_lt (tgt := 12) hx hb d_NameList_letterOf_7 (by decide) (fun hc7 => ?_) (fun hc7 => ?_)
    · replace hM := gi_t hc7 hM
      refine lv_iconst (v := (0 : Int32)) hx hb d_NameList_letterOf_12 (by decide) ?_
      refine lv_istore_n (lv' := [(3, .int (0 : Int32)), (0, .ref (ρ a0)), (1, .int x1), (2, .int x2)]) hx hb d_NameList_letterOf_13 rfl hl (by decide) rfl (fun ls hl => ?_)
      obtain ⟨y14, hL14, hM⟩ := gb_some hM
      refine t_NameList_letterOf_L14 C hL14 (fun y14_0 hy => ?_) (fun y14_1 hy => ?_) ls H locs (lv_sub hl [1, 2, 3, 0] rfl) hP hS
      · subst hy
        replace hM := gs_l hM
        intro ls H locs hl hP hS
        refine lv_iconst (v := (-1 : Int32)) hx hb d_NameList_letterOf_67 (by decide) ?_
        obtain rfl := Option.some.inj hM
        exact hR _ ls H locs d_NameList_letterOf_68 hP hS
      · subst hy
        replace hM := gs_r hM
        intro ls H locs hl hP hS
        refine lv_iload_n hx hb d_NameList_letterOf_32 rfl (lv_at hl 1 rfl) ?_
        refine lv_bipush (v := (6 : Int32)) hx hb d_NameList_letterOf_33 (by decide) ?_
        refine lv_icmp_ge (tgt := 47) hx hb d_NameList_letterOf_35 (by decide) (fun hc35 => ?_) (fun hc35 => ?_)
        · replace hM := gi_t hc35 hM
          refine lv_aload_n hx hb d_NameList_letterOf_47 rfl (lv_at hl 0 rfl) ?_
          obtain ⟨h48, hM⟩ := gc_some hM
          obtain ⟨r48, hr48, hM⟩ := gb_some hM
          refine g_getR C hP gl_NameList_19 (eq_of_beq h48) rfl hr48 d_NameList_letterOf_48 ?_
          refine lv_iload_n hx hb d_NameList_letterOf_51 rfl (lv_at hl 2 rfl) ?_
          obtain ⟨h52, hM⟩ := gc_some hM
          obtain ⟨hi52, hM⟩ := gc_some hM
          refine g_lald C hP (eq_of_beq h52) hi52 d_NameList_letterOf_52 ?_
          exact t_NameList_letterOf_b53 C hM hR ls H locs (lv_sub hl [1] rfl) hP hS
        · replace hM := gi_f hc35 hM
          refine lv_aload_n hx hb d_NameList_letterOf_38 rfl (lv_at hl 0 rfl) ?_
          obtain ⟨h39, hM⟩ := gc_some hM
          obtain ⟨r39, hr39, hM⟩ := gb_some hM
          refine g_getR C hP gl_NameList_15 (eq_of_beq h39) rfl hr39 d_NameList_letterOf_39 ?_
          refine lv_iload_n hx hb d_NameList_letterOf_42 rfl (lv_at hl 2 rfl) ?_
          obtain ⟨h43, hM⟩ := gc_some hM
          obtain ⟨hi43, hM⟩ := gc_some hM
          refine g_lald C hP (eq_of_beq h43) hi43 d_NameList_letterOf_43 ?_
          refine lv_goto (tgt := 53) hx hb d_NameList_letterOf_44 (by decide) ?_
          exact t_NameList_letterOf_b53 C hM hR ls H locs (lv_sub hl [1] rfl) hP hS
    · replace hM := gi_f hc7 hM
      exact t_NameList_letterOf_b10 C hM hR ls H locs (lv_sub hl [] rfl) hP hS
theorem c_NameList_letterOf {l : Launch} {cy : Nat → ClassId} {D : va_G} {ρ : Nat → Nat} {A : Nat → Prop} (hD : gD ρ A) {a0 : Nat} {x1 : Int32} {x2 : Int32} {u : gSt} {z : (Int32 × gSt)} (hM : M_NameList_letterOf a0 x1 x2 u = some z) : gCtI l y_NameList_letterOf prog_7_method_5_code 4 (some .int) 1 23 cy D ρ A [.ref (ρ a0), .int x1, .int x2] u z.1 z.2 :=
  g_met (by decide) hD (Nat.le_of_ble_eq_true rfl) (fun p e s m below meth c ls X hl hP => t_NameList_letterOf X hM (fun pc ls H locs hd hP hS => g_iret X hP hS hd) ls _ [] hl hP va_S.rf)
end
section
variable {p : Program} {l : Launch} {e : Env} {R : Room} {s : State} {m : MethodId} {args : Array Value} {below : List Frame} {meth : Method} {c : Code} {Q : State → Prop} {H0 : Heap} {cells slots : Nat} {cy : Nat → ClassId} {D : va_G} {ρ : Nat → Nat} {A : Nat → Prop}
def y_NameList_isFull : MethodName := ⟨"TermDesk$NameList", "isFull", "()Z"⟩
theorem gi_NameList_isFull : gMi y_NameList_isFull prog_7_method_2_code 1 (some .boolean) 0 4 := ⟨(gWs_at 556 (by decide +kernel) (by decide +kernel)), (gWs_at 555 (by decide +kernel) (by decide +kernel)), (gWs_at 18 (by decide +kernel) (by decide +kernel)), (gWs_at 121 (by decide +kernel) (by decide +kernel)), ⟨by decide +kernel, by decide +kernel, by decide +kernel⟩, _, _, rfl⟩
theorem gm_Board_100 : gMk "TermDesk$Board" 100 y_NameList_isFull := Or.inr ⟨"TermDesk", gNs_at 553 (by decide +kernel) (by decide +kernel)⟩
theorem gm_Clerk_155 : gMk "TermDesk$Clerk" 155 y_NameList_isFull := Or.inr ⟨"TermDesk", gNs_at 565 (by decide +kernel) (by decide +kernel)⟩
theorem d_NameList_isFull_0 : decode prog_7_method_2_code 0 = .ok (.aload_n 0, 1) := by decide +kernel
theorem d_NameList_isFull_1 : decode prog_7_method_2_code 1 = .ok (.getfield 9, 3) := by decide +kernel
theorem d_NameList_isFull_4 : decode prog_7_method_2_code 4 = .ok (.aload_n 0, 1) := by decide +kernel
theorem d_NameList_isFull_5 : decode prog_7_method_2_code 5 = .ok (.getfield 22, 3) := by decide +kernel
theorem d_NameList_isFull_8 : decode prog_7_method_2_code 8 = .ok (.arraylength, 1) := by decide +kernel
theorem d_NameList_isFull_9 : decode prog_7_method_2_code 9 = .ok (.if_icmp .lt 7, 3) := by decide +kernel
theorem d_NameList_isFull_12 : decode prog_7_method_2_code 12 = .ok (.iconst 1, 1) := by decide +kernel
theorem d_NameList_isFull_13 : decode prog_7_method_2_code 13 = .ok (.goto 4, 3) := by decide +kernel
theorem d_NameList_isFull_16 : decode prog_7_method_2_code 16 = .ok (.iconst 0, 1) := by decide +kernel
theorem d_NameList_isFull_17 : decode prog_7_method_2_code 17 = .ok (.ireturn, 1) := by decide +kernel
noncomputable def M_NameList_isFull_b17 (s0 : Int32) (u : gSt) : Option ((Int32 × gSt)) :=
  gc (gZ s0) <| some (s0, u)
set_option maxHeartbeats 4000000 in
set_option maxRecDepth 100000 in
theorem t_NameList_isFull_b17 (C : gX "TermDesk$NameList" prog_7_method_2_code 1 (some .boolean) 0 0 R cells slots cy D ρ A p s m args meth c) {s0 : Int32} {u : gSt} {z : (Int32 × gSt)} (hM : M_NameList_isFull_b17 s0 u = some z) (hR : gRtZ p l e R s m args below meth c Q H0 cells slots cy D ρ A prog_7_method_2_code z.1 z.2) : gAt p l e R s m args below meth c Q H0 cells slots cy D ρ A 1 17 [] [.int s0] u := by
  intro ls H locs hl hP hS
  have hx := C.1
  have hb := C.2.1
  unfold M_NameList_isFull_b17 at hM
  obtain ⟨hz17, hM⟩ := gc_some hM
  obtain rfl := Option.some.inj hM
  exact hR _ ls H locs hz17 d_NameList_isFull_17 hP hS
noncomputable def M_NameList_isFull (a0 : Nat) (u : gSt) : Option ((Int32 × gSt)) :=
  gc (gK a0 == 4) <| gc (gK a0 == 4) <| (gFR a0 2).bind fun r5 => gc (gK r5 == 22) <| if (u.1 a0 3) < (Int32.ofNat (gLen r5)) then
    (M_NameList_isFull_b17 (0 : Int32) u)
  else
    (M_NameList_isFull_b17 (1 : Int32) u)
set_option maxHeartbeats 4000000 in
set_option maxRecDepth 100000 in
theorem t_NameList_isFull (C : gX "TermDesk$NameList" prog_7_method_2_code 1 (some .boolean) 0 0 R cells slots cy D ρ A p s m args meth c) {a0 : Nat} {u : gSt} {z : (Int32 × gSt)} (hM : M_NameList_isFull a0 u = some z) (hR : gRtZ p l e R s m args below meth c Q H0 cells slots cy D ρ A prog_7_method_2_code z.1 z.2) : gAt p l e R s m args below meth c Q H0 cells slots cy D ρ A 1 0 [(0, .ref (ρ a0))] [] u := by
  intro ls H locs hl hP hS
  have hx := C.1
  have hb := C.2.1
  unfold M_NameList_isFull at hM
  refine lv_aload_n hx hb d_NameList_isFull_0 rfl (lv_at hl 0 rfl) ?_
  obtain ⟨h1, hM⟩ := gc_some hM
  refine g_getI C hP gl_NameList_9 (eq_of_beq h1) rfl d_NameList_isFull_1 ?_
  refine lv_aload_n hx hb d_NameList_isFull_4 rfl (lv_at hl 0 rfl) ?_
  obtain ⟨h5, hM⟩ := gc_some hM
  obtain ⟨r5, hr5, hM⟩ := gb_some hM
  refine g_getR C hP gl_NameList_22 (eq_of_beq h5) rfl hr5 d_NameList_isFull_5 ?_
  obtain ⟨h8, hM⟩ := gc_some hM
  refine g_alen (v := Int32.ofNat (gLen r5)) C hP (eq_of_beq h8) rfl d_NameList_isFull_8 ?_
  refine lv_icmp_lt (tgt := 16) hx hb d_NameList_isFull_9 (by decide) (fun hc9 => ?_) (fun hc9 => ?_)
  · replace hM := gi_t hc9 hM
    refine lv_iconst (v := (0 : Int32)) hx hb d_NameList_isFull_16 (by decide) ?_
    exact t_NameList_isFull_b17 C hM hR ls H locs (lv_sub hl [] rfl) hP hS
  · replace hM := gi_f hc9 hM
    refine lv_iconst (v := (1 : Int32)) hx hb d_NameList_isFull_12 (by decide) ?_
    refine lv_goto (tgt := 17) hx hb d_NameList_isFull_13 (by decide) ?_
    exact t_NameList_isFull_b17 C hM hR ls H locs (lv_sub hl [] rfl) hP hS
theorem c_NameList_isFull {l : Launch} {cy : Nat → ClassId} {D : va_G} {ρ : Nat → Nat} {A : Nat → Prop} (hD : gD ρ A) {a0 : Nat} {u : gSt} {z : (Int32 × gSt)} (hM : M_NameList_isFull a0 u = some z) : gCtI l y_NameList_isFull prog_7_method_2_code 1 (some .boolean) 0 0 cy D ρ A [.ref (ρ a0)] u z.1 z.2 :=
  g_met (by decide) hD (Nat.le_of_ble_eq_true rfl) (fun p e s m below meth c ls X hl hP => t_NameList_isFull X hM (fun pc ls H locs hz hd hP hS => g_zret X hP hS hz hd) ls _ [] hl hP va_S.rf)
end
section
variable {p : Program} {l : Launch} {e : Env} {R : Room} {s : State} {m : MethodId} {args : Array Value} {below : List Frame} {meth : Method} {c : Code} {Q : State → Prop} {H0 : Heap} {cells slots : Nat} {cy : Nat → ClassId} {D : va_G} {ρ : Nat → Nat} {A : Nat → Prop}
def y_NameList_add : MethodName := ⟨"TermDesk$NameList", "add", "(JJI)V"⟩
theorem gi_NameList_add : gMi y_NameList_add prog_7_method_3_code 6 none 3 4 := ⟨(gWs_at 564 (by decide +kernel) (by decide +kernel)), (gWs_at 563 (by decide +kernel) (by decide +kernel)), (gWs_at 20 (by decide +kernel) (by decide +kernel)), (gWs_at 121 (by decide +kernel) (by decide +kernel)), ⟨by decide +kernel, by decide +kernel, by decide +kernel⟩, _, _, rfl⟩
theorem gm_Board_104 : gMk "TermDesk$Board" 104 y_NameList_add := Or.inr ⟨"TermDesk", gNs_at 561 (by decide +kernel) (by decide +kernel)⟩
theorem gm_Clerk_158 : gMk "TermDesk$Clerk" 158 y_NameList_add := Or.inr ⟨"TermDesk", gNs_at 566 (by decide +kernel) (by decide +kernel)⟩
theorem d_NameList_add_0 : decode prog_7_method_3_code 0 = .ok (.aload_n 0, 1) := by decide +kernel
theorem d_NameList_add_1 : decode prog_7_method_3_code 1 = .ok (.getfield 15, 3) := by decide +kernel
theorem d_NameList_add_4 : decode prog_7_method_3_code 4 = .ok (.aload_n 0, 1) := by decide +kernel
theorem d_NameList_add_5 : decode prog_7_method_3_code 5 = .ok (.getfield 9, 3) := by decide +kernel
theorem d_NameList_add_8 : decode prog_7_method_3_code 8 = .ok (.lload_n 1, 1) := by decide +kernel
theorem d_NameList_add_9 : decode prog_7_method_3_code 9 = .ok (.lastore, 1) := by decide +kernel
theorem d_NameList_add_10 : decode prog_7_method_3_code 10 = .ok (.aload_n 0, 1) := by decide +kernel
theorem d_NameList_add_11 : decode prog_7_method_3_code 11 = .ok (.getfield 19, 3) := by decide +kernel
theorem d_NameList_add_14 : decode prog_7_method_3_code 14 = .ok (.aload_n 0, 1) := by decide +kernel
theorem d_NameList_add_15 : decode prog_7_method_3_code 15 = .ok (.getfield 9, 3) := by decide +kernel
theorem d_NameList_add_18 : decode prog_7_method_3_code 18 = .ok (.lload_n 3, 1) := by decide +kernel
theorem d_NameList_add_19 : decode prog_7_method_3_code 19 = .ok (.lastore, 1) := by decide +kernel
theorem d_NameList_add_20 : decode prog_7_method_3_code 20 = .ok (.aload_n 0, 1) := by decide +kernel
theorem d_NameList_add_21 : decode prog_7_method_3_code 21 = .ok (.getfield 22, 3) := by decide +kernel
theorem d_NameList_add_24 : decode prog_7_method_3_code 24 = .ok (.aload_n 0, 1) := by decide +kernel
theorem d_NameList_add_25 : decode prog_7_method_3_code 25 = .ok (.getfield 9, 3) := by decide +kernel
theorem d_NameList_add_28 : decode prog_7_method_3_code 28 = .ok (.iload 5, 2) := by decide +kernel
theorem d_NameList_add_30 : decode prog_7_method_3_code 30 = .ok (.iastore, 1) := by decide +kernel
theorem d_NameList_add_31 : decode prog_7_method_3_code 31 = .ok (.aload_n 0, 1) := by decide +kernel
theorem d_NameList_add_32 : decode prog_7_method_3_code 32 = .ok (.dup, 1) := by decide +kernel
theorem d_NameList_add_33 : decode prog_7_method_3_code 33 = .ok (.getfield 9, 3) := by decide +kernel
theorem d_NameList_add_36 : decode prog_7_method_3_code 36 = .ok (.iconst 1, 1) := by decide +kernel
theorem d_NameList_add_37 : decode prog_7_method_3_code 37 = .ok (.iadd, 1) := by decide +kernel
theorem d_NameList_add_38 : decode prog_7_method_3_code 38 = .ok (.putfield 9, 3) := by decide +kernel
theorem d_NameList_add_41 : decode prog_7_method_3_code 41 = .ok (.return_, 1) := by decide +kernel
noncomputable def M_NameList_add (a0 : Nat) (y1 : Int64) (y3 : Int64) (x5 : Int32) (u : gSt) : Option (gSt) :=
  gc (gK a0 == 4) <| (gFR a0 0).bind fun r1 => gc (gK a0 == 4) <| gc (gK r1 == 24) <| gc (gIn (u.1 a0 3) (gLen r1)) <| (some (gsL u r1 (gIx (u.1 a0 3)) y1)).bind fun u9 =>
  gc (gK a0 == 4) <| (gFR a0 1).bind fun r11 => gc (gK a0 == 4) <| gc (gK r11 == 24) <| gc (gIn (u9.1 a0 3) (gLen r11)) <| (some (gsL u9 r11 (gIx (u9.1 a0 3)) y3)).bind fun u19 =>
  gc (gK a0 == 4) <| (gFR a0 2).bind fun r21 => gc (gK a0 == 4) <| gc (gK r21 == 22) <| gc (gIn (u19.1 a0 3) (gLen r21)) <| (some (gsA u19 r21 (gIx (u19.1 a0 3)) x5)).bind fun u30 =>
  gc (gK a0 == 4) <| gc (gK a0 == 4) <| (some (gsF u30 a0 3 ((u30.1 a0 3) + (1 : Int32)))).bind fun u38 =>
  some u38
set_option maxHeartbeats 4000000 in
set_option maxRecDepth 100000 in
theorem t_NameList_add (C : gX "TermDesk$NameList" prog_7_method_3_code 6 none 0 0 R cells slots cy D ρ A p s m args meth c) {a0 : Nat} {y1 : Int64} {y3 : Int64} {x5 : Int32} {u : gSt} {z : gSt} (hM : M_NameList_add a0 y1 y3 x5 u = some z) (hR : gRtV p l e R s m args below meth c Q H0 cells slots cy D ρ A prog_7_method_3_code z) : gAt p l e R s m args below meth c Q H0 cells slots cy D ρ A 6 0 [(0, .ref (ρ a0)), (1, .long y1), (3, .long y3), (5, .int x5)] [] u := by
  intro ls H locs hl hP hS
  have hx := C.1
  have hb := C.2.1
  unfold M_NameList_add at hM
  refine lv_aload_n hx hb d_NameList_add_0 rfl (lv_at hl 0 rfl) ?_
  obtain ⟨h1, hM⟩ := gc_some hM
  obtain ⟨r1, hr1, hM⟩ := gb_some hM
  refine g_getR C hP gl_NameList_15 (eq_of_beq h1) rfl hr1 d_NameList_add_1 ?_
  refine lv_aload_n hx hb d_NameList_add_4 rfl (lv_at hl 0 rfl) ?_
  obtain ⟨h5, hM⟩ := gc_some hM
  refine g_getI C hP gl_NameList_9 (eq_of_beq h5) rfl d_NameList_add_5 ?_
  refine lv_lload_n hx hb d_NameList_add_8 rfl (lv_at hl 1 rfl) ?_
  obtain ⟨h9, hM⟩ := gc_some hM
  obtain ⟨hi9, hM⟩ := gc_some hM
  obtain ⟨u9, e9, hM⟩ := gb_some hM
  refine g_last C hP hS (eq_of_beq h9) hi9 d_NameList_add_9 (fun H locs hP hS => ?_)
  rw [Option.some.inj e9] at hP
  refine lv_aload_n hx hb d_NameList_add_10 rfl (lv_at hl 0 rfl) ?_
  obtain ⟨h11, hM⟩ := gc_some hM
  obtain ⟨r11, hr11, hM⟩ := gb_some hM
  refine g_getR C hP gl_NameList_19 (eq_of_beq h11) rfl hr11 d_NameList_add_11 ?_
  refine lv_aload_n hx hb d_NameList_add_14 rfl (lv_at hl 0 rfl) ?_
  obtain ⟨h15, hM⟩ := gc_some hM
  refine g_getI C hP gl_NameList_9 (eq_of_beq h15) rfl d_NameList_add_15 ?_
  refine lv_lload_n hx hb d_NameList_add_18 rfl (lv_at hl 2 rfl) ?_
  obtain ⟨h19, hM⟩ := gc_some hM
  obtain ⟨hi19, hM⟩ := gc_some hM
  obtain ⟨u19, e19, hM⟩ := gb_some hM
  refine g_last C hP hS (eq_of_beq h19) hi19 d_NameList_add_19 (fun H locs hP hS => ?_)
  rw [Option.some.inj e19] at hP
  refine lv_aload_n hx hb d_NameList_add_20 rfl (lv_at hl 0 rfl) ?_
  obtain ⟨h21, hM⟩ := gc_some hM
  obtain ⟨r21, hr21, hM⟩ := gb_some hM
  refine g_getR C hP gl_NameList_22 (eq_of_beq h21) rfl hr21 d_NameList_add_21 ?_
  refine lv_aload_n hx hb d_NameList_add_24 rfl (lv_at hl 0 rfl) ?_
  obtain ⟨h25, hM⟩ := gc_some hM
  refine g_getI C hP gl_NameList_9 (eq_of_beq h25) rfl d_NameList_add_25 ?_
  refine lv_iload hx hb d_NameList_add_28 (lv_at hl 3 rfl) ?_
  obtain ⟨h30, hM⟩ := gc_some hM
  obtain ⟨hi30, hM⟩ := gc_some hM
  obtain ⟨u30, e30, hM⟩ := gb_some hM
  refine g_iast C hP hS (eq_of_beq h30) hi30 d_NameList_add_30 (fun H locs hP hS => ?_)
  rw [Option.some.inj e30] at hP
  refine lv_aload_n hx hb d_NameList_add_31 rfl (lv_at hl 0 rfl) ?_
  refine lv_dup hx hb d_NameList_add_32 rfl ?_
  obtain ⟨h33, hM⟩ := gc_some hM
  refine g_getI C hP gl_NameList_9 (eq_of_beq h33) rfl d_NameList_add_33 ?_
  refine lv_iconst (v := (1 : Int32)) hx hb d_NameList_add_36 (by decide) ?_
  refine lv_iadd hx hb d_NameList_add_37 ?_
  obtain ⟨h38, hM⟩ := gc_some hM
  obtain ⟨u38, e38, hM⟩ := gb_some hM
  refine g_putI C hP hS gl_NameList_9 (eq_of_beq h38) rfl gq_4_3 d_NameList_add_38 (fun H locs hP hS => ?_)
  rw [Option.some.inj e38] at hP
  obtain rfl := Option.some.inj hM
  exact hR _ ls H locs d_NameList_add_41 hP hS
theorem c_NameList_add {l : Launch} {cy : Nat → ClassId} {D : va_G} {ρ : Nat → Nat} {A : Nat → Prop} (hD : gD ρ A) {a0 : Nat} {y1 : Int64} {y3 : Int64} {x5 : Int32} {u : gSt} {z : gSt} (hM : M_NameList_add a0 y1 y3 x5 u = some z) : gCtV l y_NameList_add prog_7_method_3_code 6 none 0 0 cy D ρ A [.ref (ρ a0), .long y1, .long y3, .int x5] u z :=
  g_met (by decide) hD (Nat.le_of_ble_eq_true rfl) (fun p e s m below meth c ls X hl hP => t_NameList_add X hM (fun pc ls H locs hd hP hS => g_vret X hP hS hd) ls _ [] hl hP va_S.rf)
end
section
variable {p : Program} {l : Launch} {e : Env} {R : Room} {s : State} {m : MethodId} {args : Array Value} {below : List Frame} {meth : Method} {c : Code} {Q : State → Prop} {H0 : Heap} {cells slots : Nat} {cy : Nat → ClassId} {D : va_G} {ρ : Nat → Nat} {A : Nat → Prop}
def y_Text_openWord : MethodName := ⟨"TermDesk$Text", "openWord", "()Z"⟩
theorem gi_Text_openWord : gMi y_Text_openWord prog_10_method_4_code 1 (some .boolean) 0 2 := ⟨(gWs_at 434 (by decide +kernel) (by decide +kernel)), (gWs_at 433 (by decide +kernel) (by decide +kernel)), (gWs_at 3 (by decide +kernel) (by decide +kernel)), (gWs_at 119 (by decide +kernel) (by decide +kernel)), ⟨by decide +kernel, by decide +kernel, by decide +kernel⟩, _, _, rfl⟩
theorem gm_Clerk_66 : gMk "TermDesk$Clerk" 66 y_Text_openWord := Or.inr ⟨"TermDesk", gNs_at 431 (by decide +kernel) (by decide +kernel)⟩
theorem d_Text_openWord_0 : decode prog_10_method_4_code 0 = .ok (.aload_n 0, 1) := by decide +kernel
theorem d_Text_openWord_1 : decode prog_10_method_4_code 1 = .ok (.getfield 29, 3) := by decide +kernel
theorem d_Text_openWord_4 : decode prog_10_method_4_code 4 = .ok (.aload_n 0, 1) := by decide +kernel
theorem d_Text_openWord_5 : decode prog_10_method_4_code 5 = .ok (.getfield 23, 3) := by decide +kernel
theorem d_Text_openWord_8 : decode prog_10_method_4_code 8 = .ok (.if_icmp .lt 13, 3) := by decide +kernel
theorem d_Text_openWord_11 : decode prog_10_method_4_code 11 = .ok (.aload_n 0, 1) := by decide +kernel
theorem d_Text_openWord_12 : decode prog_10_method_4_code 12 = .ok (.aload_n 0, 1) := by decide +kernel
theorem d_Text_openWord_13 : decode prog_10_method_4_code 13 = .ok (.getfield 23, 3) := by decide +kernel
theorem d_Text_openWord_16 : decode prog_10_method_4_code 16 = .ok (.putfield 26, 3) := by decide +kernel
theorem d_Text_openWord_19 : decode prog_10_method_4_code 19 = .ok (.iconst 0, 1) := by decide +kernel
theorem d_Text_openWord_20 : decode prog_10_method_4_code 20 = .ok (.ireturn, 1) := by decide +kernel
theorem d_Text_openWord_21 : decode prog_10_method_4_code 21 = .ok (.aload_n 0, 1) := by decide +kernel
theorem d_Text_openWord_22 : decode prog_10_method_4_code 22 = .ok (.aload_n 0, 1) := by decide +kernel
theorem d_Text_openWord_23 : decode prog_10_method_4_code 23 = .ok (.getfield 29, 3) := by decide +kernel
theorem d_Text_openWord_26 : decode prog_10_method_4_code 26 = .ok (.iconst 1, 1) := by decide +kernel
theorem d_Text_openWord_27 : decode prog_10_method_4_code 27 = .ok (.iadd, 1) := by decide +kernel
theorem d_Text_openWord_28 : decode prog_10_method_4_code 28 = .ok (.putfield 26, 3) := by decide +kernel
theorem d_Text_openWord_31 : decode prog_10_method_4_code 31 = .ok (.aload_n 0, 1) := by decide +kernel
theorem d_Text_openWord_32 : decode prog_10_method_4_code 32 = .ok (.aload_n 0, 1) := by decide +kernel
theorem d_Text_openWord_33 : decode prog_10_method_4_code 33 = .ok (.getfield 26, 3) := by decide +kernel
theorem d_Text_openWord_36 : decode prog_10_method_4_code 36 = .ok (.putfield 29, 3) := by decide +kernel
theorem d_Text_openWord_39 : decode prog_10_method_4_code 39 = .ok (.aload_n 0, 1) := by decide +kernel
theorem d_Text_openWord_40 : decode prog_10_method_4_code 40 = .ok (.getfield 29, 3) := by decide +kernel
theorem d_Text_openWord_43 : decode prog_10_method_4_code 43 = .ok (.aload_n 0, 1) := by decide +kernel
theorem d_Text_openWord_44 : decode prog_10_method_4_code 44 = .ok (.getfield 23, 3) := by decide +kernel
theorem d_Text_openWord_47 : decode prog_10_method_4_code 47 = .ok (.if_icmp .ge 30, 3) := by decide +kernel
theorem d_Text_openWord_50 : decode prog_10_method_4_code 50 = .ok (.aload_n 0, 1) := by decide +kernel
theorem d_Text_openWord_51 : decode prog_10_method_4_code 51 = .ok (.getfield 10, 3) := by decide +kernel
theorem d_Text_openWord_54 : decode prog_10_method_4_code 54 = .ok (.aload_n 0, 1) := by decide +kernel
theorem d_Text_openWord_55 : decode prog_10_method_4_code 55 = .ok (.getfield 29, 3) := by decide +kernel
theorem d_Text_openWord_58 : decode prog_10_method_4_code 58 = .ok (.baload, 1) := by decide +kernel
theorem d_Text_openWord_59 : decode prog_10_method_4_code 59 = .ok (.bipush 32, 2) := by decide +kernel
theorem d_Text_openWord_61 : decode prog_10_method_4_code 61 = .ok (.if_icmp .eq 16, 3) := by decide +kernel
theorem d_Text_openWord_64 : decode prog_10_method_4_code 64 = .ok (.aload_n 0, 1) := by decide +kernel
theorem d_Text_openWord_65 : decode prog_10_method_4_code 65 = .ok (.dup, 1) := by decide +kernel
theorem d_Text_openWord_66 : decode prog_10_method_4_code 66 = .ok (.getfield 29, 3) := by decide +kernel
theorem d_Text_openWord_69 : decode prog_10_method_4_code 69 = .ok (.iconst 1, 1) := by decide +kernel
theorem d_Text_openWord_70 : decode prog_10_method_4_code 70 = .ok (.iadd, 1) := by decide +kernel
theorem d_Text_openWord_71 : decode prog_10_method_4_code 71 = .ok (.putfield 29, 3) := by decide +kernel
theorem d_Text_openWord_74 : decode prog_10_method_4_code 74 = .ok (.goto (-35), 3) := by decide +kernel
theorem d_Text_openWord_77 : decode prog_10_method_4_code 77 = .ok (.iconst 1, 1) := by decide +kernel
theorem d_Text_openWord_78 : decode prog_10_method_4_code 78 = .ok (.ireturn, 1) := by decide +kernel
noncomputable def M_Text_openWord_b39 (u : gSt) : Option ((gSt) ⊕ ((gSt))) :=
  if (u.1 2 3) ≤ (u.1 2 5) then
    (some (.inr u))
  else
    (gc (gIn (u.1 2 5) (gLen 3)) <| if (u.2.2.1 3 (gIx (u.1 2 5))) = (32 : Int32) then
      (some (.inr u))
    else
      ((some (gsF u 2 5 ((u.1 2 5) + (1 : Int32)))).bind fun u71 =>
      some (.inl u71)))
set_option maxHeartbeats 4000000 in
set_option maxRecDepth 100000 in
theorem t_Text_openWord_b39 (C : gX "TermDesk$Text" prog_10_method_4_code 1 (some .boolean) 0 0 R cells slots cy D ρ A p s m args meth c) {u : gSt} {z : (gSt) ⊕ ((gSt))} (hM : M_Text_openWord_b39 u = some z) (hN : ∀ u', z = .inl u' → gAt p l e R s m args below meth c Q H0 cells slots cy D ρ A 1 39 [(0, .ref (ρ 2))] [] (u')) (hE0 : ∀ u', z = .inr u' → gAt p l e R s m args below meth c Q H0 cells slots cy D ρ A 1 77 [] [] (u')) : gAt p l e R s m args below meth c Q H0 cells slots cy D ρ A 1 39 [(0, .ref (ρ 2))] [] u := by
  intro ls H locs hl hP hS
  have hx := C.1
  have hb := C.2.1
  unfold M_Text_openWord_b39 at hM
  refine lv_aload_n hx hb d_Text_openWord_39 rfl (lv_at hl 0 rfl) ?_
  refine g_getI C hP gl_Text_29 rfl rfl d_Text_openWord_40 ?_
  refine lv_aload_n hx hb d_Text_openWord_43 rfl (lv_at hl 0 rfl) ?_
  refine g_getI C hP gl_Text_23 rfl rfl d_Text_openWord_44 ?_
  refine lv_icmp_ge (tgt := 77) hx hb d_Text_openWord_47 (by decide) (fun hc47 => ?_) (fun hc47 => ?_)
  · replace hM := gi_t hc47 hM
    exact hE0 _ (Option.some.inj hM).symm ls H locs (lv_sub hl [] rfl) hP hS
  · replace hM := gi_f hc47 hM
    refine lv_aload_n hx hb d_Text_openWord_50 rfl (lv_at hl 0 rfl) ?_
    refine g_getR (b := 3) C hP gl_Text_10 rfl rfl rfl d_Text_openWord_51 ?_
    refine lv_aload_n hx hb d_Text_openWord_54 rfl (lv_at hl 0 rfl) ?_
    refine g_getI C hP gl_Text_29 rfl rfl d_Text_openWord_55 ?_
    obtain ⟨hi58, hM⟩ := gc_some hM
    refine g_bald C hP rfl hi58 d_Text_openWord_58 ?_
    refine lv_bipush (v := (32 : Int32)) hx hb d_Text_openWord_59 (by decide) ?_
    refine lv_icmp_eq (tgt := 77) hx hb d_Text_openWord_61 (by decide) (fun hc61 => ?_) (fun hc61 => ?_)
    · replace hM := gi_t hc61 hM
      exact hE0 _ (Option.some.inj hM).symm ls H locs (lv_sub hl [] rfl) hP hS
    · replace hM := gi_f hc61 hM
      refine lv_aload_n hx hb d_Text_openWord_64 rfl (lv_at hl 0 rfl) ?_
      refine lv_dup hx hb d_Text_openWord_65 rfl ?_
      refine g_getI C hP gl_Text_29 rfl rfl d_Text_openWord_66 ?_
      refine lv_iconst (v := (1 : Int32)) hx hb d_Text_openWord_69 (by decide) ?_
      refine lv_iadd hx hb d_Text_openWord_70 ?_
      obtain ⟨u71, e71, hM⟩ := gb_some hM
      refine g_putI C hP hS gl_Text_29 rfl rfl gq_2_5 d_Text_openWord_71 (fun H locs hP hS => ?_)
      rw [Option.some.inj e71] at hP
      refine lv_goto (tgt := 39) hx hb d_Text_openWord_74 (by decide) ?_
      exact hN _ (Option.some.inj hM).symm ls H locs (lv_sub hl [0] rfl) hP hS
noncomputable def M_Text_openWord_L39 : (gSt) → Option ((gSt) ⊕ ((gSt))) := fun x => M_Text_openWord_b39 x
theorem t_Text_openWord_L39 (C : gX "TermDesk$Text" prog_10_method_4_code 1 (some .boolean) 0 0 R cells slots cy D ρ A p s m args meth c) {u : gSt} {yy : (gSt)} (hL : gLp M_Text_openWord_L39 u = some yy) (hE0 : (∀ y', yy = y' → gAt p l e R s m args below meth c Q H0 cells slots cy D ρ A 1 77 [] [] (y'))) : gAt p l e R s m args below meth c Q H0 cells slots cy D ρ A 1 39 [(0, .ref (ρ 2))] [] u :=
  g_loop (f := M_Text_openWord_L39) (P := fun x => gAt p l e R s m args below meth c Q H0 cells slots cy D ρ A 1 39 [(0, .ref (ρ 2))] [] x) (E := fun yy => (∀ y', yy = y' → gAt p l e R s m args below meth c Q H0 cells slots cy D ρ A 1 77 [] [] (y'))) (fun x z hf hN hE => t_Text_openWord_b39 C hf (fun u' h => hN u' h) (fun u' h => (hE _ h) u' rfl)) hL hE0
noncomputable def M_Text_openWord (u : gSt) : Option ((Int32 × gSt)) :=
  if (u.1 2 5) < (u.1 2 3) then
    ((some (gsF u 2 4 ((u.1 2 5) + (1 : Int32)))).bind fun u28 =>
    (some (gsF u28 2 5 (u28.1 2 4))).bind fun u36 =>
    (gLp M_Text_openWord_L39 u36).bind fun y39 =>
    some ((1 : Int32), y39))
  else
    ((some (gsF u 2 4 (u.1 2 3))).bind fun u16 =>
    some ((0 : Int32), u16))
set_option maxHeartbeats 4000000 in
set_option maxRecDepth 100000 in
theorem t_Text_openWord (C : gX "TermDesk$Text" prog_10_method_4_code 1 (some .boolean) 0 0 R cells slots cy D ρ A p s m args meth c) {u : gSt} {z : (Int32 × gSt)} (hM : M_Text_openWord u = some z) (hR : gRtZ p l e R s m args below meth c Q H0 cells slots cy D ρ A prog_10_method_4_code z.1 z.2) : gAt p l e R s m args below meth c Q H0 cells slots cy D ρ A 1 0 [(0, .ref (ρ 2))] [] u := by
  intro ls H locs hl hP hS
  have hx := C.1
  have hb := C.2.1
  unfold M_Text_openWord at hM
  refine lv_aload_n hx hb d_Text_openWord_0 rfl (lv_at hl 0 rfl) ?_
  refine g_getI C hP gl_Text_29 rfl rfl d_Text_openWord_1 ?_
  refine lv_aload_n hx hb d_Text_openWord_4 rfl (lv_at hl 0 rfl) ?_
  refine g_getI C hP gl_Text_23 rfl rfl d_Text_openWord_5 ?_
  refine lv_icmp_lt (tgt := 21) hx hb d_Text_openWord_8 (by decide) (fun hc8 => ?_) (fun hc8 => ?_)
  · replace hM := gi_t hc8 hM
    refine lv_aload_n hx hb d_Text_openWord_21 rfl (lv_at hl 0 rfl) ?_
    refine lv_aload_n hx hb d_Text_openWord_22 rfl (lv_at hl 0 rfl) ?_
    refine g_getI C hP gl_Text_29 rfl rfl d_Text_openWord_23 ?_
    refine lv_iconst (v := (1 : Int32)) hx hb d_Text_openWord_26 (by decide) ?_
    refine lv_iadd hx hb d_Text_openWord_27 ?_
    obtain ⟨u28, e28, hM⟩ := gb_some hM
    refine g_putI C hP hS gl_Text_26 rfl rfl gq_2_4 d_Text_openWord_28 (fun H locs hP hS => ?_)
    rw [Option.some.inj e28] at hP
    refine lv_aload_n hx hb d_Text_openWord_31 rfl (lv_at hl 0 rfl) ?_
    refine lv_aload_n hx hb d_Text_openWord_32 rfl (lv_at hl 0 rfl) ?_
    refine g_getI C hP gl_Text_26 rfl rfl d_Text_openWord_33 ?_
    obtain ⟨u36, e36, hM⟩ := gb_some hM
    refine g_putI C hP hS gl_Text_29 rfl rfl gq_2_5 d_Text_openWord_36 (fun H locs hP hS => ?_)
    rw [Option.some.inj e36] at hP
    obtain ⟨y39, hL39, hM⟩ := gb_some hM
    refine t_Text_openWord_L39 C hL39 (fun y39_0 hy => ?_) ls H locs (lv_sub hl [0] rfl) hP hS
    · subst hy
      intro ls H locs hl hP hS
      refine lv_iconst (v := (1 : Int32)) hx hb d_Text_openWord_77 (by decide) ?_
      obtain rfl := Option.some.inj hM
      exact hR _ ls H locs rfl d_Text_openWord_78 hP hS
  · replace hM := gi_f hc8 hM
    refine lv_aload_n hx hb d_Text_openWord_11 rfl (lv_at hl 0 rfl) ?_
    refine lv_aload_n hx hb d_Text_openWord_12 rfl (lv_at hl 0 rfl) ?_
    refine g_getI C hP gl_Text_23 rfl rfl d_Text_openWord_13 ?_
    obtain ⟨u16, e16, hM⟩ := gb_some hM
    refine g_putI C hP hS gl_Text_26 rfl rfl gq_2_4 d_Text_openWord_16 (fun H locs hP hS => ?_)
    rw [Option.some.inj e16] at hP
    refine lv_iconst (v := (0 : Int32)) hx hb d_Text_openWord_19 (by decide) ?_
    obtain rfl := Option.some.inj hM
    exact hR _ ls H locs rfl d_Text_openWord_20 hP hS
theorem c_Text_openWord {l : Launch} {cy : Nat → ClassId} {D : va_G} {ρ : Nat → Nat} {A : Nat → Prop} (hD : gD ρ A) {u : gSt} {z : (Int32 × gSt)} (hM : M_Text_openWord u = some z) : gCtI l y_Text_openWord prog_10_method_4_code 1 (some .boolean) 0 0 cy D ρ A [.ref (ρ 2)] u z.1 z.2 :=
  g_met (by decide) hD (Nat.le_of_ble_eq_true rfl) (fun p e s m below meth c ls X hl hP => t_Text_openWord X hM (fun pc ls H locs hz hd hP hS => g_zret X hP hS hz hd) ls _ [] hl hP va_S.rf)
end
section
variable {p : Program} {l : Launch} {e : Env} {R : Room} {s : State} {m : MethodId} {args : Array Value} {below : List Frame} {meth : Method} {c : Code} {Q : State → Prop} {H0 : Heap} {cells slots : Nat} {cy : Nat → ClassId} {D : va_G} {ρ : Nat → Nat} {A : Nat → Prop}
def y_Text_wordLength : MethodName := ⟨"TermDesk$Text", "wordLength", "()I"⟩
theorem gi_Text_wordLength : gMi y_Text_wordLength prog_10_method_5_code 1 (some .int) 0 2 := ⟨(gWs_at 458 (by decide +kernel) (by decide +kernel)), (gWs_at 457 (by decide +kernel) (by decide +kernel)), (gWs_at 6 (by decide +kernel) (by decide +kernel)), (gWs_at 119 (by decide +kernel) (by decide +kernel)), ⟨by decide +kernel, by decide +kernel, by decide +kernel⟩, _, _, rfl⟩
theorem gm_Text_37 : gMk "TermDesk$Text" 37 y_Text_wordLength := Or.inl (gWs_at 455 (by decide +kernel) (by decide +kernel))
theorem gm_Clerk_102 : gMk "TermDesk$Clerk" 102 y_Text_wordLength := Or.inr ⟨"TermDesk", gNs_at 501 (by decide +kernel) (by decide +kernel)⟩
theorem d_Text_wordLength_0 : decode prog_10_method_5_code 0 = .ok (.aload_n 0, 1) := by decide +kernel
theorem d_Text_wordLength_1 : decode prog_10_method_5_code 1 = .ok (.getfield 29, 3) := by decide +kernel
theorem d_Text_wordLength_4 : decode prog_10_method_5_code 4 = .ok (.aload_n 0, 1) := by decide +kernel
theorem d_Text_wordLength_5 : decode prog_10_method_5_code 5 = .ok (.getfield 26, 3) := by decide +kernel
theorem d_Text_wordLength_8 : decode prog_10_method_5_code 8 = .ok (.isub, 1) := by decide +kernel
theorem d_Text_wordLength_9 : decode prog_10_method_5_code 9 = .ok (.ireturn, 1) := by decide +kernel
noncomputable def M_Text_wordLength (u : gSt) : Option ((Int32 × gSt)) :=
  some ((u.1 2 5) - (u.1 2 4), u)
set_option maxHeartbeats 4000000 in
set_option maxRecDepth 100000 in
theorem t_Text_wordLength (C : gX "TermDesk$Text" prog_10_method_5_code 1 (some .int) 0 0 R cells slots cy D ρ A p s m args meth c) {u : gSt} {z : (Int32 × gSt)} (hM : M_Text_wordLength u = some z) (hR : gRtI p l e R s m args below meth c Q H0 cells slots cy D ρ A prog_10_method_5_code z.1 z.2) : gAt p l e R s m args below meth c Q H0 cells slots cy D ρ A 1 0 [(0, .ref (ρ 2))] [] u := by
  intro ls H locs hl hP hS
  have hx := C.1
  have hb := C.2.1
  unfold M_Text_wordLength at hM
  refine lv_aload_n hx hb d_Text_wordLength_0 rfl (lv_at hl 0 rfl) ?_
  refine g_getI C hP gl_Text_29 rfl rfl d_Text_wordLength_1 ?_
  refine lv_aload_n hx hb d_Text_wordLength_4 rfl (lv_at hl 0 rfl) ?_
  refine g_getI C hP gl_Text_26 rfl rfl d_Text_wordLength_5 ?_
  refine lv_isub hx hb d_Text_wordLength_8 ?_
  obtain rfl := Option.some.inj hM
  exact hR _ ls H locs d_Text_wordLength_9 hP hS
theorem c_Text_wordLength {l : Launch} {cy : Nat → ClassId} {D : va_G} {ρ : Nat → Nat} {A : Nat → Prop} (hD : gD ρ A) {u : gSt} {z : (Int32 × gSt)} (hM : M_Text_wordLength u = some z) : gCtI l y_Text_wordLength prog_10_method_5_code 1 (some .int) 0 0 cy D ρ A [.ref (ρ 2)] u z.1 z.2 :=
  g_met (by decide) hD (Nat.le_of_ble_eq_true rfl) (fun p e s m below meth c ls X hl hP => t_Text_wordLength X hM (fun pc ls H locs hd hP hS => g_iret X hP hS hd) ls _ [] hl hP va_S.rf)
end
section
variable {p : Program} {l : Launch} {e : Env} {R : Room} {s : State} {m : MethodId} {args : Array Value} {below : List Frame} {meth : Method} {c : Code} {Q : State → Prop} {H0 : Heap} {cells slots : Nat} {cy : Nat → ClassId} {D : va_G} {ρ : Nat → Nat} {A : Nat → Prop}
def y_Text_isNameLetter : MethodName := ⟨"TermDesk$Text", "isNameLetter", "(I)Z"⟩
theorem gi_Text_isNameLetter : gMs y_Text_isNameLetter prog_10_method_8_code 1 (some .boolean) 1 := ⟨(gWs_at 508 (by decide +kernel) (by decide +kernel)), (gWs_at 507 (by decide +kernel) (by decide +kernel)), (gWs_at 119 (by decide +kernel) (by decide +kernel)), ⟨by decide +kernel, by decide +kernel, by decide +kernel⟩⟩
theorem gm_Text_44 : gMk "TermDesk$Text" 44 y_Text_isNameLetter := Or.inl (gWs_at 506 (by decide +kernel) (by decide +kernel))
theorem d_Text_isNameLetter_0 : decode prog_10_method_8_code 0 = .ok (.iload_n 0, 1) := by decide +kernel
theorem d_Text_isNameLetter_1 : decode prog_10_method_8_code 1 = .ok (.bipush 97, 2) := by decide +kernel
theorem d_Text_isNameLetter_3 : decode prog_10_method_8_code 3 = .ok (.if_icmp .lt 9, 3) := by decide +kernel
theorem d_Text_isNameLetter_6 : decode prog_10_method_8_code 6 = .ok (.iload_n 0, 1) := by decide +kernel
theorem d_Text_isNameLetter_7 : decode prog_10_method_8_code 7 = .ok (.bipush 122, 2) := by decide +kernel
theorem d_Text_isNameLetter_9 : decode prog_10_method_8_code 9 = .ok (.if_icmp .le 39, 3) := by decide +kernel
theorem d_Text_isNameLetter_12 : decode prog_10_method_8_code 12 = .ok (.iload_n 0, 1) := by decide +kernel
theorem d_Text_isNameLetter_13 : decode prog_10_method_8_code 13 = .ok (.bipush 65, 2) := by decide +kernel
theorem d_Text_isNameLetter_15 : decode prog_10_method_8_code 15 = .ok (.if_icmp .lt 9, 3) := by decide +kernel
theorem d_Text_isNameLetter_18 : decode prog_10_method_8_code 18 = .ok (.iload_n 0, 1) := by decide +kernel
theorem d_Text_isNameLetter_19 : decode prog_10_method_8_code 19 = .ok (.bipush 90, 2) := by decide +kernel
theorem d_Text_isNameLetter_21 : decode prog_10_method_8_code 21 = .ok (.if_icmp .le 27, 3) := by decide +kernel
theorem d_Text_isNameLetter_24 : decode prog_10_method_8_code 24 = .ok (.iload_n 0, 1) := by decide +kernel
theorem d_Text_isNameLetter_25 : decode prog_10_method_8_code 25 = .ok (.bipush 48, 2) := by decide +kernel
theorem d_Text_isNameLetter_27 : decode prog_10_method_8_code 27 = .ok (.if_icmp .lt 9, 3) := by decide +kernel
theorem d_Text_isNameLetter_30 : decode prog_10_method_8_code 30 = .ok (.iload_n 0, 1) := by decide +kernel
theorem d_Text_isNameLetter_31 : decode prog_10_method_8_code 31 = .ok (.bipush 57, 2) := by decide +kernel
theorem d_Text_isNameLetter_33 : decode prog_10_method_8_code 33 = .ok (.if_icmp .le 15, 3) := by decide +kernel
theorem d_Text_isNameLetter_36 : decode prog_10_method_8_code 36 = .ok (.iload_n 0, 1) := by decide +kernel
theorem d_Text_isNameLetter_37 : decode prog_10_method_8_code 37 = .ok (.bipush 95, 2) := by decide +kernel
theorem d_Text_isNameLetter_39 : decode prog_10_method_8_code 39 = .ok (.if_icmp .eq 9, 3) := by decide +kernel
theorem d_Text_isNameLetter_42 : decode prog_10_method_8_code 42 = .ok (.iload_n 0, 1) := by decide +kernel
theorem d_Text_isNameLetter_43 : decode prog_10_method_8_code 43 = .ok (.bipush 58, 2) := by decide +kernel
theorem d_Text_isNameLetter_45 : decode prog_10_method_8_code 45 = .ok (.if_icmp .ne 7, 3) := by decide +kernel
theorem d_Text_isNameLetter_48 : decode prog_10_method_8_code 48 = .ok (.iconst 1, 1) := by decide +kernel
theorem d_Text_isNameLetter_49 : decode prog_10_method_8_code 49 = .ok (.goto 4, 3) := by decide +kernel
theorem d_Text_isNameLetter_52 : decode prog_10_method_8_code 52 = .ok (.iconst 0, 1) := by decide +kernel
theorem d_Text_isNameLetter_53 : decode prog_10_method_8_code 53 = .ok (.ireturn, 1) := by decide +kernel
noncomputable def M_Text_isNameLetter_b53 (s0 : Int32) (u : gSt) : Option ((Int32 × gSt)) :=
  gc (gZ s0) <| some (s0, u)
set_option maxHeartbeats 4000000 in
set_option maxRecDepth 100000 in
theorem t_Text_isNameLetter_b53 (C : gX "TermDesk$Text" prog_10_method_8_code 1 (some .boolean) 0 0 R cells slots cy D ρ A p s m args meth c) {s0 : Int32} {u : gSt} {z : (Int32 × gSt)} (hM : M_Text_isNameLetter_b53 s0 u = some z) (hR : gRtZ p l e R s m args below meth c Q H0 cells slots cy D ρ A prog_10_method_8_code z.1 z.2) : gAt p l e R s m args below meth c Q H0 cells slots cy D ρ A 1 53 [] [.int s0] u := by
  intro ls H locs hl hP hS
  have hx := C.1
  have hb := C.2.1
  unfold M_Text_isNameLetter_b53 at hM
  obtain ⟨hz53, hM⟩ := gc_some hM
  obtain rfl := Option.some.inj hM
  exact hR _ ls H locs hz53 d_Text_isNameLetter_53 hP hS
noncomputable def M_Text_isNameLetter_b48 (u : gSt) : Option ((Int32 × gSt)) :=
  M_Text_isNameLetter_b53 (1 : Int32) u
set_option maxHeartbeats 4000000 in
set_option maxRecDepth 100000 in
theorem t_Text_isNameLetter_b48 (C : gX "TermDesk$Text" prog_10_method_8_code 1 (some .boolean) 0 0 R cells slots cy D ρ A p s m args meth c) {u : gSt} {z : (Int32 × gSt)} (hM : M_Text_isNameLetter_b48 u = some z) (hR : gRtZ p l e R s m args below meth c Q H0 cells slots cy D ρ A prog_10_method_8_code z.1 z.2) : gAt p l e R s m args below meth c Q H0 cells slots cy D ρ A 1 48 [] [] u := by
  intro ls H locs hl hP hS
  have hx := C.1
  have hb := C.2.1
  unfold M_Text_isNameLetter_b48 at hM
  refine lv_iconst (v := (1 : Int32)) hx hb d_Text_isNameLetter_48 (by decide) ?_
  refine lv_goto (tgt := 53) hx hb d_Text_isNameLetter_49 (by decide) ?_
  exact t_Text_isNameLetter_b53 C hM hR ls H locs (lv_sub hl [] rfl) hP hS
noncomputable def M_Text_isNameLetter_b36 (x0 : Int32) (u : gSt) : Option ((Int32 × gSt)) :=
  if x0 = (95 : Int32) then
    (M_Text_isNameLetter_b48 u)
  else
    (if x0 = (58 : Int32) then
      (M_Text_isNameLetter_b48 u)
    else
      (M_Text_isNameLetter_b53 (0 : Int32) u))
set_option maxHeartbeats 4000000 in
set_option maxRecDepth 100000 in
theorem t_Text_isNameLetter_b36 (C : gX "TermDesk$Text" prog_10_method_8_code 1 (some .boolean) 0 0 R cells slots cy D ρ A p s m args meth c) {x0 : Int32} {u : gSt} {z : (Int32 × gSt)} (hM : M_Text_isNameLetter_b36 x0 u = some z) (hR : gRtZ p l e R s m args below meth c Q H0 cells slots cy D ρ A prog_10_method_8_code z.1 z.2) : gAt p l e R s m args below meth c Q H0 cells slots cy D ρ A 1 36 [(0, .int x0)] [] u := by
  intro ls H locs hl hP hS
  have hx := C.1
  have hb := C.2.1
  unfold M_Text_isNameLetter_b36 at hM
  refine lv_iload_n hx hb d_Text_isNameLetter_36 rfl (lv_at hl 0 rfl) ?_
  refine lv_bipush (v := (95 : Int32)) hx hb d_Text_isNameLetter_37 (by decide) ?_
  refine lv_icmp_eq (tgt := 48) hx hb d_Text_isNameLetter_39 (by decide) (fun hc39 => ?_) (fun hc39 => ?_)
  · replace hM := gi_t hc39 hM
    exact t_Text_isNameLetter_b48 C hM hR ls H locs (lv_sub hl [] rfl) hP hS
  · replace hM := gi_f hc39 hM
    refine lv_iload_n hx hb d_Text_isNameLetter_42 rfl (lv_at hl 0 rfl) ?_
    refine lv_bipush (v := (58 : Int32)) hx hb d_Text_isNameLetter_43 (by decide) ?_
    refine lv_icmp_ne (tgt := 52) hx hb d_Text_isNameLetter_45 (by decide) (fun hc45 => ?_) (fun hc45 => ?_)
    · replace hM := gi_f hc45 hM
      refine lv_iconst (v := (0 : Int32)) hx hb d_Text_isNameLetter_52 (by decide) ?_
      exact t_Text_isNameLetter_b53 C hM hR ls H locs (lv_sub hl [] rfl) hP hS
    · replace hM := gi_t hc45 hM
      exact t_Text_isNameLetter_b48 C hM hR ls H locs (lv_sub hl [] rfl) hP hS
noncomputable def M_Text_isNameLetter_b24 (x0 : Int32) (u : gSt) : Option ((Int32 × gSt)) :=
  if x0 < (48 : Int32) then
    (M_Text_isNameLetter_b36 x0 u)
  else
    (if x0 ≤ (57 : Int32) then
      (M_Text_isNameLetter_b48 u)
    else
      (M_Text_isNameLetter_b36 x0 u))
set_option maxHeartbeats 4000000 in
set_option maxRecDepth 100000 in
theorem t_Text_isNameLetter_b24 (C : gX "TermDesk$Text" prog_10_method_8_code 1 (some .boolean) 0 0 R cells slots cy D ρ A p s m args meth c) {x0 : Int32} {u : gSt} {z : (Int32 × gSt)} (hM : M_Text_isNameLetter_b24 x0 u = some z) (hR : gRtZ p l e R s m args below meth c Q H0 cells slots cy D ρ A prog_10_method_8_code z.1 z.2) : gAt p l e R s m args below meth c Q H0 cells slots cy D ρ A 1 24 [(0, .int x0)] [] u := by
  intro ls H locs hl hP hS
  have hx := C.1
  have hb := C.2.1
  unfold M_Text_isNameLetter_b24 at hM
  refine lv_iload_n hx hb d_Text_isNameLetter_24 rfl (lv_at hl 0 rfl) ?_
  refine lv_bipush (v := (48 : Int32)) hx hb d_Text_isNameLetter_25 (by decide) ?_
  refine lv_icmp_lt (tgt := 36) hx hb d_Text_isNameLetter_27 (by decide) (fun hc27 => ?_) (fun hc27 => ?_)
  · replace hM := gi_t hc27 hM
    exact t_Text_isNameLetter_b36 C hM hR ls H locs (lv_sub hl [0] rfl) hP hS
  · replace hM := gi_f hc27 hM
    refine lv_iload_n hx hb d_Text_isNameLetter_30 rfl (lv_at hl 0 rfl) ?_
    refine lv_bipush (v := (57 : Int32)) hx hb d_Text_isNameLetter_31 (by decide) ?_
    refine lv_icmp_le (tgt := 48) hx hb d_Text_isNameLetter_33 (by decide) (fun hc33 => ?_) (fun hc33 => ?_)
    · replace hM := gi_t hc33 hM
      exact t_Text_isNameLetter_b48 C hM hR ls H locs (lv_sub hl [] rfl) hP hS
    · replace hM := gi_f hc33 hM
      exact t_Text_isNameLetter_b36 C hM hR ls H locs (lv_sub hl [0] rfl) hP hS
noncomputable def M_Text_isNameLetter_b12 (x0 : Int32) (u : gSt) : Option ((Int32 × gSt)) :=
  if x0 < (65 : Int32) then
    (M_Text_isNameLetter_b24 x0 u)
  else
    (if x0 ≤ (90 : Int32) then
      (M_Text_isNameLetter_b48 u)
    else
      (M_Text_isNameLetter_b24 x0 u))
set_option maxHeartbeats 4000000 in
set_option maxRecDepth 100000 in
theorem t_Text_isNameLetter_b12 (C : gX "TermDesk$Text" prog_10_method_8_code 1 (some .boolean) 0 0 R cells slots cy D ρ A p s m args meth c) {x0 : Int32} {u : gSt} {z : (Int32 × gSt)} (hM : M_Text_isNameLetter_b12 x0 u = some z) (hR : gRtZ p l e R s m args below meth c Q H0 cells slots cy D ρ A prog_10_method_8_code z.1 z.2) : gAt p l e R s m args below meth c Q H0 cells slots cy D ρ A 1 12 [(0, .int x0)] [] u := by
  intro ls H locs hl hP hS
  have hx := C.1
  have hb := C.2.1
  unfold M_Text_isNameLetter_b12 at hM
  refine lv_iload_n hx hb d_Text_isNameLetter_12 rfl (lv_at hl 0 rfl) ?_
  refine lv_bipush (v := (65 : Int32)) hx hb d_Text_isNameLetter_13 (by decide) ?_
  refine lv_icmp_lt (tgt := 24) hx hb d_Text_isNameLetter_15 (by decide) (fun hc15 => ?_) (fun hc15 => ?_)
  · replace hM := gi_t hc15 hM
    exact t_Text_isNameLetter_b24 C hM hR ls H locs (lv_sub hl [0] rfl) hP hS
  · replace hM := gi_f hc15 hM
    refine lv_iload_n hx hb d_Text_isNameLetter_18 rfl (lv_at hl 0 rfl) ?_
    refine lv_bipush (v := (90 : Int32)) hx hb d_Text_isNameLetter_19 (by decide) ?_
    refine lv_icmp_le (tgt := 48) hx hb d_Text_isNameLetter_21 (by decide) (fun hc21 => ?_) (fun hc21 => ?_)
    · replace hM := gi_t hc21 hM
      exact t_Text_isNameLetter_b48 C hM hR ls H locs (lv_sub hl [] rfl) hP hS
    · replace hM := gi_f hc21 hM
      exact t_Text_isNameLetter_b24 C hM hR ls H locs (lv_sub hl [0] rfl) hP hS
noncomputable def M_Text_isNameLetter (x0 : Int32) (u : gSt) : Option ((Int32 × gSt)) :=
  if x0 < (97 : Int32) then
    (M_Text_isNameLetter_b12 x0 u)
  else
    (if x0 ≤ (122 : Int32) then
      (M_Text_isNameLetter_b48 u)
    else
      (M_Text_isNameLetter_b12 x0 u))
set_option maxHeartbeats 4000000 in
set_option maxRecDepth 100000 in
theorem t_Text_isNameLetter (C : gX "TermDesk$Text" prog_10_method_8_code 1 (some .boolean) 0 0 R cells slots cy D ρ A p s m args meth c) {x0 : Int32} {u : gSt} {z : (Int32 × gSt)} (hM : M_Text_isNameLetter x0 u = some z) (hR : gRtZ p l e R s m args below meth c Q H0 cells slots cy D ρ A prog_10_method_8_code z.1 z.2) : gAt p l e R s m args below meth c Q H0 cells slots cy D ρ A 1 0 [(0, .int x0)] [] u := by
  intro ls H locs hl hP hS
  have hx := C.1
  have hb := C.2.1
  unfold M_Text_isNameLetter at hM
  refine lv_iload_n hx hb d_Text_isNameLetter_0 rfl (lv_at hl 0 rfl) ?_
  refine lv_bipush (v := (97 : Int32)) hx hb d_Text_isNameLetter_1 (by decide) ?_
  refine lv_icmp_lt (tgt := 12) hx hb d_Text_isNameLetter_3 (by decide) (fun hc3 => ?_) (fun hc3 => ?_)
  · replace hM := gi_t hc3 hM
    exact t_Text_isNameLetter_b12 C hM hR ls H locs (lv_sub hl [0] rfl) hP hS
  · replace hM := gi_f hc3 hM
    refine lv_iload_n hx hb d_Text_isNameLetter_6 rfl (lv_at hl 0 rfl) ?_
    refine lv_bipush (v := (122 : Int32)) hx hb d_Text_isNameLetter_7 (by decide) ?_
    refine lv_icmp_le (tgt := 48) hx hb d_Text_isNameLetter_9 (by decide) (fun hc9 => ?_) (fun hc9 => ?_)
    · replace hM := gi_t hc9 hM
      exact t_Text_isNameLetter_b48 C hM hR ls H locs (lv_sub hl [] rfl) hP hS
    · replace hM := gi_f hc9 hM
      exact t_Text_isNameLetter_b12 C hM hR ls H locs (lv_sub hl [0] rfl) hP hS
theorem c_Text_isNameLetter {l : Launch} {cy : Nat → ClassId} {D : va_G} {ρ : Nat → Nat} {A : Nat → Prop} (hD : gD ρ A) {x0 : Int32} {u : gSt} {z : (Int32 × gSt)} (hM : M_Text_isNameLetter x0 u = some z) : gCtI l y_Text_isNameLetter prog_10_method_8_code 1 (some .boolean) 0 0 cy D ρ A [.int x0] u z.1 z.2 :=
  g_met (by decide) hD (Nat.le_of_ble_eq_true rfl) (fun p e s m below meth c ls X hl hP => t_Text_isNameLetter X hM (fun pc ls H locs hz hd hP hS => g_zret X hP hS hz hd) ls _ [] hl hP va_S.rf)
end
section
variable {p : Program} {l : Launch} {e : Env} {R : Room} {s : State} {m : MethodId} {args : Array Value} {below : List Frame} {meth : Method} {c : Code} {Q : State → Prop} {H0 : Heap} {cells slots : Nat} {cy : Nat → ClassId} {D : va_G} {ρ : Nat → Nat} {A : Nat → Prop}
def y_Text_wordIsName : MethodName := ⟨"TermDesk$Text", "wordIsName", "()Z"⟩
theorem gi_Text_wordIsName : gMi y_Text_wordIsName prog_10_method_7_code 2 (some .boolean) 0 2 := ⟨(gWs_at 505 (by decide +kernel) (by decide +kernel)), (gWs_at 504 (by decide +kernel) (by decide +kernel)), (gWs_at 8 (by decide +kernel) (by decide +kernel)), (gWs_at 119 (by decide +kernel) (by decide +kernel)), ⟨by decide +kernel, by decide +kernel, by decide +kernel⟩, _, _, rfl⟩
theorem gm_Clerk_105 : gMk "TermDesk$Clerk" 105 y_Text_wordIsName := Or.inr ⟨"TermDesk", gNs_at 502 (by decide +kernel) (by decide +kernel)⟩
theorem d_Text_wordIsName_0 : decode prog_10_method_7_code 0 = .ok (.aload_n 0, 1) := by decide +kernel
theorem d_Text_wordIsName_1 : decode prog_10_method_7_code 1 = .ok (.invokevirtual 37, 3) := by decide +kernel
theorem d_Text_wordIsName_4 : decode prog_10_method_7_code 4 = .ok (.iconst 1, 1) := by decide +kernel
theorem d_Text_wordIsName_5 : decode prog_10_method_7_code 5 = .ok (.if_icmp .lt 12, 3) := by decide +kernel
theorem d_Text_wordIsName_8 : decode prog_10_method_7_code 8 = .ok (.aload_n 0, 1) := by decide +kernel
theorem d_Text_wordIsName_9 : decode prog_10_method_7_code 9 = .ok (.invokevirtual 37, 3) := by decide +kernel
theorem d_Text_wordIsName_12 : decode prog_10_method_7_code 12 = .ok (.bipush 12, 2) := by decide +kernel
theorem d_Text_wordIsName_14 : decode prog_10_method_7_code 14 = .ok (.if_icmp .le 5, 3) := by decide +kernel
theorem d_Text_wordIsName_17 : decode prog_10_method_7_code 17 = .ok (.iconst 0, 1) := by decide +kernel
theorem d_Text_wordIsName_18 : decode prog_10_method_7_code 18 = .ok (.ireturn, 1) := by decide +kernel
theorem d_Text_wordIsName_19 : decode prog_10_method_7_code 19 = .ok (.aload_n 0, 1) := by decide +kernel
theorem d_Text_wordIsName_20 : decode prog_10_method_7_code 20 = .ok (.getfield 26, 3) := by decide +kernel
theorem d_Text_wordIsName_23 : decode prog_10_method_7_code 23 = .ok (.istore_n 1, 1) := by decide +kernel
theorem d_Text_wordIsName_24 : decode prog_10_method_7_code 24 = .ok (.iload_n 1, 1) := by decide +kernel
theorem d_Text_wordIsName_25 : decode prog_10_method_7_code 25 = .ok (.aload_n 0, 1) := by decide +kernel
theorem d_Text_wordIsName_26 : decode prog_10_method_7_code 26 = .ok (.getfield 29, 3) := by decide +kernel
theorem d_Text_wordIsName_29 : decode prog_10_method_7_code 29 = .ok (.if_icmp .ge 23, 3) := by decide +kernel
theorem d_Text_wordIsName_32 : decode prog_10_method_7_code 32 = .ok (.aload_n 0, 1) := by decide +kernel
theorem d_Text_wordIsName_33 : decode prog_10_method_7_code 33 = .ok (.getfield 10, 3) := by decide +kernel
theorem d_Text_wordIsName_36 : decode prog_10_method_7_code 36 = .ok (.iload_n 1, 1) := by decide +kernel
theorem d_Text_wordIsName_37 : decode prog_10_method_7_code 37 = .ok (.baload, 1) := by decide +kernel
theorem d_Text_wordIsName_38 : decode prog_10_method_7_code 38 = .ok (.invokestatic 44, 3) := by decide +kernel
theorem d_Text_wordIsName_41 : decode prog_10_method_7_code 41 = .ok (.ifCond .ne 5, 3) := by decide +kernel
theorem d_Text_wordIsName_44 : decode prog_10_method_7_code 44 = .ok (.iconst 0, 1) := by decide +kernel
theorem d_Text_wordIsName_45 : decode prog_10_method_7_code 45 = .ok (.ireturn, 1) := by decide +kernel
theorem d_Text_wordIsName_46 : decode prog_10_method_7_code 46 = .ok (.iinc 1 1, 3) := by decide +kernel
theorem d_Text_wordIsName_49 : decode prog_10_method_7_code 49 = .ok (.goto (-25), 3) := by decide +kernel
theorem d_Text_wordIsName_52 : decode prog_10_method_7_code 52 = .ok (.iconst 1, 1) := by decide +kernel
theorem d_Text_wordIsName_53 : decode prog_10_method_7_code 53 = .ok (.ireturn, 1) := by decide +kernel
noncomputable def M_Text_wordIsName_b17 (u : gSt) : Option ((Int32 × gSt)) :=
  some ((0 : Int32), u)
set_option maxHeartbeats 4000000 in
set_option maxRecDepth 100000 in
theorem t_Text_wordIsName_b17 (C : gX "TermDesk$Text" prog_10_method_7_code 2 (some .boolean) 1 20 R cells slots cy D ρ A p s m args meth c) {u : gSt} {z : (Int32 × gSt)} (hM : M_Text_wordIsName_b17 u = some z) (hR : gRtZ p l e R s m args below meth c Q H0 cells slots cy D ρ A prog_10_method_7_code z.1 z.2) : gAt p l e R s m args below meth c Q H0 cells slots cy D ρ A 2 17 [] [] u := by
  intro ls H locs hl hP hS
  have hx := C.1
  have hb := C.2.1
  unfold M_Text_wordIsName_b17 at hM
  refine lv_iconst (v := (0 : Int32)) hx hb d_Text_wordIsName_17 (by decide) ?_
  obtain rfl := Option.some.inj hM
  exact hR _ ls H locs rfl d_Text_wordIsName_18 hP hS
noncomputable def M_Text_wordIsName_b24 (x1 : Int32) (u : gSt) : Option ((Int32 × gSt) ⊕ ((gSt) ⊕ (gSt))) :=
  if (u.1 2 5) ≤ x1 then
    (some (.inr (.inl u)))
  else
    (gc (gIn x1 (gLen 3)) <| (M_Text_isNameLetter (u.2.2.1 3 (gIx x1)) u).bind fun q38 =>
    if q38.1 = (0 : Int32) then
      (some (.inr (.inr q38.2)))
    else
      (some (.inl (x1 + (1 : Int32), q38.2))))
set_option maxHeartbeats 4000000 in
set_option maxRecDepth 100000 in
theorem t_Text_wordIsName_b24 (C : gX "TermDesk$Text" prog_10_method_7_code 2 (some .boolean) 1 20 R cells slots cy D ρ A p s m args meth c) {x1 : Int32} {u : gSt} {z : (Int32 × gSt) ⊕ ((gSt) ⊕ (gSt))} (hM : M_Text_wordIsName_b24 x1 u = some z) (hN : ∀ x1' u', z = .inl (x1', u') → gAt p l e R s m args below meth c Q H0 cells slots cy D ρ A 2 24 [(0, .ref (ρ 2)), (1, .int (x1'))] [] (u')) (hE0 : ∀ u', z = .inr (.inl u') → gAt p l e R s m args below meth c Q H0 cells slots cy D ρ A 2 52 [] [] (u')) (hE1 : ∀ u', z = .inr (.inr u') → gAt p l e R s m args below meth c Q H0 cells slots cy D ρ A 2 44 [] [] (u')) : gAt p l e R s m args below meth c Q H0 cells slots cy D ρ A 2 24 [(0, .ref (ρ 2)), (1, .int x1)] [] u := by
  intro ls H locs hl hP hS
  have hx := C.1
  have hb := C.2.1
  unfold M_Text_wordIsName_b24 at hM
  refine lv_iload_n hx hb d_Text_wordIsName_24 rfl (lv_at hl 1 rfl) ?_
  refine lv_aload_n hx hb d_Text_wordIsName_25 rfl (lv_at hl 0 rfl) ?_
  refine g_getI C hP gl_Text_29 rfl rfl d_Text_wordIsName_26 ?_
  refine lv_icmp_ge (tgt := 52) hx hb d_Text_wordIsName_29 (by decide) (fun hc29 => ?_) (fun hc29 => ?_)
  · replace hM := gi_t hc29 hM
    exact hE0 _ (Option.some.inj hM).symm ls H locs (lv_sub hl [] rfl) hP hS
  · replace hM := gi_f hc29 hM
    refine lv_aload_n hx hb d_Text_wordIsName_32 rfl (lv_at hl 0 rfl) ?_
    refine g_getR (b := 3) C hP gl_Text_10 rfl rfl rfl d_Text_wordIsName_33 ?_
    refine lv_iload_n hx hb d_Text_wordIsName_36 rfl (lv_at hl 1 rfl) ?_
    obtain ⟨hi37, hM⟩ := gc_some hM
    refine g_bald C hP rfl hi37 d_Text_wordIsName_37 ?_
    obtain ⟨q38, hq38, hM⟩ := gb_some hM
    refine g_backI (g_runS (As := [.int (u.2.2.1 3 (gIx x1))]) C hP (c_Text_isNameLetter C.2.2.2.2.2.2.2.2.1 hq38) gi_Text_isNameLetter gm_Text_44 rfl (by decide) (by decide) hl.1 rfl (Nat.le_of_ble_eq_true rfl) d_Text_wordIsName_38) hS (fun H locs hP hS => ?_)
    refine lv_if_ne (tgt := 46) hx hb d_Text_wordIsName_41 (by decide) (fun hc41 => ?_) (fun hc41 => ?_)
    · replace hM := gi_f hc41 hM
      refine lv_iinc (k := 1) (v := x1 + (1 : Int32)) (lv' := [(1, .int (x1 + (1 : Int32))), (0, .ref (ρ 2))]) hx hb d_Text_wordIsName_46 hl rfl (congrArg (fun z => x1 + z) (by decide)) (by decide) rfl (fun ls hl => ?_)
      refine lv_goto (tgt := 24) hx hb d_Text_wordIsName_49 (by decide) ?_
      exact hN _ _ (Option.some.inj hM).symm ls H locs (lv_sub hl [1, 0] rfl) hP hS
    · replace hM := gi_t hc41 hM
      exact hE1 _ (Option.some.inj hM).symm ls H locs (lv_sub hl [] rfl) hP hS
noncomputable def M_Text_wordIsName_L24 : (Int32 × gSt) → Option ((Int32 × gSt) ⊕ ((gSt) ⊕ (gSt))) := fun x => M_Text_wordIsName_b24 x.1 x.2
theorem t_Text_wordIsName_L24 (C : gX "TermDesk$Text" prog_10_method_7_code 2 (some .boolean) 1 20 R cells slots cy D ρ A p s m args meth c) {x1 : Int32} {u : gSt} {yy : (gSt) ⊕ (gSt)} (hL : gLp M_Text_wordIsName_L24 (x1, u) = some yy) (hE0 : (∀ y', yy = (.inl y') → gAt p l e R s m args below meth c Q H0 cells slots cy D ρ A 2 52 [] [] (y'))) (hE1 : (∀ y', yy = (.inr y') → gAt p l e R s m args below meth c Q H0 cells slots cy D ρ A 2 44 [] [] (y'))) : gAt p l e R s m args below meth c Q H0 cells slots cy D ρ A 2 24 [(0, .ref (ρ 2)), (1, .int x1)] [] u :=
  g_loop (f := M_Text_wordIsName_L24) (P := fun x => gAt p l e R s m args below meth c Q H0 cells slots cy D ρ A 2 24 [(0, .ref (ρ 2)), (1, .int x.1)] [] x.2) (E := fun yy => (∀ y', yy = (.inl y') → gAt p l e R s m args below meth c Q H0 cells slots cy D ρ A 2 52 [] [] (y')) ∧ (∀ y', yy = (.inr y') → gAt p l e R s m args below meth c Q H0 cells slots cy D ρ A 2 44 [] [] (y'))) (fun x z hf hN hE => t_Text_wordIsName_b24 C hf (fun x1' u' h => hN (x1', u') h) (fun u' h => (hE _ h).1 u' rfl) (fun u' h => (hE _ h).2 u' rfl)) hL ⟨hE0, hE1⟩
noncomputable def M_Text_wordIsName (u : gSt) : Option ((Int32 × gSt)) :=
  (M_Text_wordLength u).bind fun q1 =>
  if q1.1 < (1 : Int32) then
    (M_Text_wordIsName_b17 q1.2)
  else
    ((M_Text_wordLength q1.2).bind fun q9 =>
    if q9.1 ≤ (12 : Int32) then
      ((gLp M_Text_wordIsName_L24 (q9.2.1 2 4, q9.2)).bind fun y24 =>
      (Sum.elim (fun y24_0 => some ((1 : Int32), y24_0)) (fun y24_1 => some ((0 : Int32), y24_1))) y24)
    else
      (M_Text_wordIsName_b17 q9.2))
set_option maxHeartbeats 4000000 in
set_option maxRecDepth 100000 in
theorem t_Text_wordIsName (C : gX "TermDesk$Text" prog_10_method_7_code 2 (some .boolean) 1 20 R cells slots cy D ρ A p s m args meth c) {u : gSt} {z : (Int32 × gSt)} (hM : M_Text_wordIsName u = some z) (hR : gRtZ p l e R s m args below meth c Q H0 cells slots cy D ρ A prog_10_method_7_code z.1 z.2) : gAt p l e R s m args below meth c Q H0 cells slots cy D ρ A 2 0 [(0, .ref (ρ 2))] [] u := by
  intro ls H locs hl hP hS
  have hx := C.1
  have hb := C.2.1
  unfold M_Text_wordIsName at hM
  refine lv_aload_n hx hb d_Text_wordIsName_0 rfl (lv_at hl 0 rfl) ?_
  obtain ⟨q1, hq1, hM⟩ := gb_some hM
  refine g_backI (g_runV (As := []) C hP (c_Text_wordLength C.2.2.2.2.2.2.2.2.1 hq1) gi_Text_wordLength gm_Text_37 rfl rfl (by decide) (by decide) hl.1 rfl (Nat.le_of_ble_eq_true rfl) d_Text_wordIsName_1) hS (fun H locs hP hS => ?_)
  refine lv_iconst (v := (1 : Int32)) hx hb d_Text_wordIsName_4 (by decide) ?_
  refine lv_icmp_lt (tgt := 17) hx hb d_Text_wordIsName_5 (by decide) (fun hc5 => ?_) (fun hc5 => ?_)
  · replace hM := gi_t hc5 hM
    exact t_Text_wordIsName_b17 C hM hR ls H locs (lv_sub hl [] rfl) hP hS
  · replace hM := gi_f hc5 hM
    refine lv_aload_n hx hb d_Text_wordIsName_8 rfl (lv_at hl 0 rfl) ?_
    obtain ⟨q9, hq9, hM⟩ := gb_some hM
    refine g_backI (g_runV (As := []) C hP (c_Text_wordLength C.2.2.2.2.2.2.2.2.1 hq9) gi_Text_wordLength gm_Text_37 rfl rfl (by decide) (by decide) hl.1 rfl (Nat.le_of_ble_eq_true rfl) d_Text_wordIsName_9) hS (fun H locs hP hS => ?_)
    refine lv_bipush (v := (12 : Int32)) hx hb d_Text_wordIsName_12 (by decide) ?_
    refine lv_icmp_le (tgt := 19) hx hb d_Text_wordIsName_14 (by decide) (fun hc14 => ?_) (fun hc14 => ?_)
    · replace hM := gi_t hc14 hM
      refine lv_aload_n hx hb d_Text_wordIsName_19 rfl (lv_at hl 0 rfl) ?_
      refine g_getI C hP gl_Text_26 rfl rfl d_Text_wordIsName_20 ?_
      refine lv_istore_n (lv' := [(1, .int (q9.2.1 2 4)), (0, .ref (ρ 2))]) hx hb d_Text_wordIsName_23 rfl hl (by decide) rfl (fun ls hl => ?_)
      obtain ⟨y24, hL24, hM⟩ := gb_some hM
      refine t_Text_wordIsName_L24 C hL24 (fun y24_0 hy => ?_) (fun y24_1 hy => ?_) ls H locs (lv_sub hl [1, 0] rfl) hP hS
      · subst hy
        replace hM := gs_l hM
        intro ls H locs hl hP hS
        refine lv_iconst (v := (1 : Int32)) hx hb d_Text_wordIsName_52 (by decide) ?_
        obtain rfl := Option.some.inj hM
        exact hR _ ls H locs rfl d_Text_wordIsName_53 hP hS
      · subst hy
        replace hM := gs_r hM
        intro ls H locs hl hP hS
        refine lv_iconst (v := (0 : Int32)) hx hb d_Text_wordIsName_44 (by decide) ?_
        obtain rfl := Option.some.inj hM
        exact hR _ ls H locs rfl d_Text_wordIsName_45 hP hS
    · replace hM := gi_f hc14 hM
      exact t_Text_wordIsName_b17 C hM hR ls H locs (lv_sub hl [] rfl) hP hS
theorem c_Text_wordIsName {l : Launch} {cy : Nat → ClassId} {D : va_G} {ρ : Nat → Nat} {A : Nat → Prop} (hD : gD ρ A) {u : gSt} {z : (Int32 × gSt)} (hM : M_Text_wordIsName u = some z) : gCtI l y_Text_wordIsName prog_10_method_7_code 2 (some .boolean) 1 20 cy D ρ A [.ref (ρ 2)] u z.1 z.2 :=
  g_met (by decide) hD (Nat.le_of_ble_eq_true rfl) (fun p e s m below meth c ls X hl hP => t_Text_wordIsName X hM (fun pc ls H locs hz hd hP hS => g_zret X hP hS hz hd) ls _ [] hl hP va_S.rf)
end
section
variable {p : Program} {l : Launch} {e : Env} {R : Room} {s : State} {m : MethodId} {args : Array Value} {below : List Frame} {meth : Method} {c : Code} {Q : State → Prop} {H0 : Heap} {cells slots : Nat} {cy : Nat → ClassId} {D : va_G} {ρ : Nat → Nat} {A : Nat → Prop}
def y_Text_wordHalf : MethodName := ⟨"TermDesk$Text", "wordHalf", "(I)J"⟩
theorem gi_Text_wordHalf : gMi y_Text_wordHalf prog_10_method_9_code 5 (some .long) 1 2 := ⟨(gWs_at 512 (by decide +kernel) (by decide +kernel)), (gWs_at 511 (by decide +kernel) (by decide +kernel)), (gWs_at 9 (by decide +kernel) (by decide +kernel)), (gWs_at 119 (by decide +kernel) (by decide +kernel)), ⟨by decide +kernel, by decide +kernel, by decide +kernel⟩, _, _, rfl⟩
theorem gm_Clerk_108 : gMk "TermDesk$Clerk" 108 y_Text_wordHalf := Or.inr ⟨"TermDesk", gNs_at 509 (by decide +kernel) (by decide +kernel)⟩
theorem d_Text_wordHalf_0 : decode prog_10_method_9_code 0 = .ok (.lconst 0, 1) := by decide +kernel
theorem d_Text_wordHalf_1 : decode prog_10_method_9_code 1 = .ok (.lstore_n 2, 1) := by decide +kernel
theorem d_Text_wordHalf_2 : decode prog_10_method_9_code 2 = .ok (.iload_n 1, 1) := by decide +kernel
theorem d_Text_wordHalf_3 : decode prog_10_method_9_code 3 = .ok (.istore 4, 2) := by decide +kernel
theorem d_Text_wordHalf_5 : decode prog_10_method_9_code 5 = .ok (.iload 4, 2) := by decide +kernel
theorem d_Text_wordHalf_7 : decode prog_10_method_9_code 7 = .ok (.iload_n 1, 1) := by decide +kernel
theorem d_Text_wordHalf_8 : decode prog_10_method_9_code 8 = .ok (.bipush 6, 2) := by decide +kernel
theorem d_Text_wordHalf_10 : decode prog_10_method_9_code 10 = .ok (.iadd, 1) := by decide +kernel
theorem d_Text_wordHalf_11 : decode prog_10_method_9_code 11 = .ok (.if_icmp .ge 41, 3) := by decide +kernel
theorem d_Text_wordHalf_14 : decode prog_10_method_9_code 14 = .ok (.lload_n 2, 1) := by decide +kernel
theorem d_Text_wordHalf_15 : decode prog_10_method_9_code 15 = .ok (.bipush 8, 2) := by decide +kernel
theorem d_Text_wordHalf_17 : decode prog_10_method_9_code 17 = .ok (.lshl, 1) := by decide +kernel
theorem d_Text_wordHalf_18 : decode prog_10_method_9_code 18 = .ok (.iload 4, 2) := by decide +kernel
theorem d_Text_wordHalf_20 : decode prog_10_method_9_code 20 = .ok (.aload_n 0, 1) := by decide +kernel
theorem d_Text_wordHalf_21 : decode prog_10_method_9_code 21 = .ok (.invokevirtual 37, 3) := by decide +kernel
theorem d_Text_wordHalf_24 : decode prog_10_method_9_code 24 = .ok (.if_icmp .ge 18, 3) := by decide +kernel
theorem d_Text_wordHalf_27 : decode prog_10_method_9_code 27 = .ok (.aload_n 0, 1) := by decide +kernel
theorem d_Text_wordHalf_28 : decode prog_10_method_9_code 28 = .ok (.getfield 10, 3) := by decide +kernel
theorem d_Text_wordHalf_31 : decode prog_10_method_9_code 31 = .ok (.aload_n 0, 1) := by decide +kernel
theorem d_Text_wordHalf_32 : decode prog_10_method_9_code 32 = .ok (.getfield 26, 3) := by decide +kernel
theorem d_Text_wordHalf_35 : decode prog_10_method_9_code 35 = .ok (.iload 4, 2) := by decide +kernel
theorem d_Text_wordHalf_37 : decode prog_10_method_9_code 37 = .ok (.iadd, 1) := by decide +kernel
theorem d_Text_wordHalf_38 : decode prog_10_method_9_code 38 = .ok (.baload, 1) := by decide +kernel
theorem d_Text_wordHalf_39 : decode prog_10_method_9_code 39 = .ok (.goto 4, 3) := by decide +kernel
theorem d_Text_wordHalf_42 : decode prog_10_method_9_code 42 = .ok (.iconst 0, 1) := by decide +kernel
theorem d_Text_wordHalf_43 : decode prog_10_method_9_code 43 = .ok (.i2l, 1) := by decide +kernel
theorem d_Text_wordHalf_44 : decode prog_10_method_9_code 44 = .ok (.lor, 1) := by decide +kernel
theorem d_Text_wordHalf_45 : decode prog_10_method_9_code 45 = .ok (.lstore_n 2, 1) := by decide +kernel
theorem d_Text_wordHalf_46 : decode prog_10_method_9_code 46 = .ok (.iinc 4 1, 3) := by decide +kernel
theorem d_Text_wordHalf_49 : decode prog_10_method_9_code 49 = .ok (.goto (-44), 3) := by decide +kernel
theorem d_Text_wordHalf_52 : decode prog_10_method_9_code 52 = .ok (.lload_n 2, 1) := by decide +kernel
theorem d_Text_wordHalf_53 : decode prog_10_method_9_code 53 = .ok (.lreturn, 1) := by decide +kernel
noncomputable def M_Text_wordHalf_b43 (x1 : Int32) (x4 : Int32) (s0 : Int32) (s1 : Int64) (u : gSt) : Option ((Int32 × Int64 × Int32 × gSt) ⊕ ((Int64 × gSt))) :=
  some (.inl (x1, s1 ||| s0.toInt64, x4 + (1 : Int32), u))
set_option maxHeartbeats 4000000 in
set_option maxRecDepth 100000 in
theorem t_Text_wordHalf_b43 (C : gX "TermDesk$Text" prog_10_method_9_code 5 (some .long) 1 20 R cells slots cy D ρ A p s m args meth c) {x1 : Int32} {x4 : Int32} {s0 : Int32} {s1 : Int64} {u : gSt} {z : (Int32 × Int64 × Int32 × gSt) ⊕ ((Int64 × gSt))} (hM : M_Text_wordHalf_b43 x1 x4 s0 s1 u = some z) (hN : ∀ x1' y2' x4' u', z = .inl (x1', y2', x4', u') → gAt p l e R s m args below meth c Q H0 cells slots cy D ρ A 5 5 [(0, .ref (ρ 2)), (1, .int (x1')), (2, .long (y2')), (4, .int (x4'))] [] (u')) (hE0 : ∀ y2' u', z = .inr (y2', u') → gAt p l e R s m args below meth c Q H0 cells slots cy D ρ A 5 52 [(2, .long (y2'))] [] (u')) : gAt p l e R s m args below meth c Q H0 cells slots cy D ρ A 5 43 [(0, .ref (ρ 2)), (1, .int x1), (4, .int x4)] [.int s0, .long s1] u := by
  intro ls H locs hl hP hS
  have hx := C.1
  have hb := C.2.1
  unfold M_Text_wordHalf_b43 at hM
  refine lv_i2l (v := s0.toInt64) hx hb d_Text_wordHalf_43 rfl ?_
  refine lv_lor hx hb d_Text_wordHalf_44 ?_
  refine lv_lstore_n (lv' := [(2, .long (s1 ||| s0.toInt64)), (0, .ref (ρ 2)), (1, .int x1), (4, .int x4)]) hx hb d_Text_wordHalf_45 rfl hl (by decide) rfl (fun ls hl => ?_)
  refine lv_iinc (k := 3) (v := x4 + (1 : Int32)) (lv' := [(4, .int (x4 + (1 : Int32))), (2, .long (s1 ||| s0.toInt64)), (0, .ref (ρ 2)), (1, .int x1)]) hx hb d_Text_wordHalf_46 hl rfl (congrArg (fun z => x4 + z) (by decide)) (by decide) rfl (fun ls hl => ?_)
  refine lv_goto (tgt := 5) hx hb d_Text_wordHalf_49 (by decide) ?_
  exact hN _ _ _ _ (Option.some.inj hM).symm ls H locs (lv_sub hl [2, 3, 1, 0] rfl) hP hS
noncomputable def M_Text_wordHalf_b5 (x1 : Int32) (y2 : Int64) (x4 : Int32) (u : gSt) : Option ((Int32 × Int64 × Int32 × gSt) ⊕ ((Int64 × gSt))) :=
  if (x1 + (6 : Int32)) ≤ x4 then
    (some (.inr (y2, u)))
  else
    ((M_Text_wordLength u).bind fun q21 =>
    if q21.1 ≤ x4 then
      (M_Text_wordHalf_b43 x1 x4 (0 : Int32) (y2 <<< ((8 : Int32).toInt64 &&& (63 : Int64))) q21.2)
    else
      (gc (gIn ((q21.2.1 2 4) + x4) (gLen 3)) <| M_Text_wordHalf_b43 x1 x4 (q21.2.2.2.1 3 (gIx ((q21.2.1 2 4) + x4))) (y2 <<< ((8 : Int32).toInt64 &&& (63 : Int64))) q21.2))
set_option maxHeartbeats 4000000 in
set_option maxRecDepth 100000 in
theorem t_Text_wordHalf_b5 (C : gX "TermDesk$Text" prog_10_method_9_code 5 (some .long) 1 20 R cells slots cy D ρ A p s m args meth c) {x1 : Int32} {y2 : Int64} {x4 : Int32} {u : gSt} {z : (Int32 × Int64 × Int32 × gSt) ⊕ ((Int64 × gSt))} (hM : M_Text_wordHalf_b5 x1 y2 x4 u = some z) (hN : ∀ x1' y2' x4' u', z = .inl (x1', y2', x4', u') → gAt p l e R s m args below meth c Q H0 cells slots cy D ρ A 5 5 [(0, .ref (ρ 2)), (1, .int (x1')), (2, .long (y2')), (4, .int (x4'))] [] (u')) (hE0 : ∀ y2' u', z = .inr (y2', u') → gAt p l e R s m args below meth c Q H0 cells slots cy D ρ A 5 52 [(2, .long (y2'))] [] (u')) : gAt p l e R s m args below meth c Q H0 cells slots cy D ρ A 5 5 [(0, .ref (ρ 2)), (1, .int x1), (2, .long y2), (4, .int x4)] [] u := by
  intro ls H locs hl hP hS
  have hx := C.1
  have hb := C.2.1
  unfold M_Text_wordHalf_b5 at hM
  refine lv_iload hx hb d_Text_wordHalf_5 (lv_at hl 3 rfl) ?_
  refine lv_iload_n hx hb d_Text_wordHalf_7 rfl (lv_at hl 1 rfl) ?_
  refine lv_bipush (v := (6 : Int32)) hx hb d_Text_wordHalf_8 (by decide) ?_
  refine lv_iadd hx hb d_Text_wordHalf_10 ?_
  refine lv_icmp_ge (tgt := 52) hx hb d_Text_wordHalf_11 (by decide) (fun hc11 => ?_) (fun hc11 => ?_)
  · replace hM := gi_t hc11 hM
    exact hE0 _ _ (Option.some.inj hM).symm ls H locs (lv_sub hl [2] rfl) hP hS
  · replace hM := gi_f hc11 hM
    refine lv_lload_n hx hb d_Text_wordHalf_14 rfl (lv_at hl 2 rfl) ?_
    refine lv_bipush (v := (8 : Int32)) hx hb d_Text_wordHalf_15 (by decide) ?_
    refine lv_lshl (v := y2 <<< ((8 : Int32).toInt64 &&& (63 : Int64))) hx hb d_Text_wordHalf_17 rfl ?_
    refine lv_iload hx hb d_Text_wordHalf_18 (lv_at hl 3 rfl) ?_
    refine lv_aload_n hx hb d_Text_wordHalf_20 rfl (lv_at hl 0 rfl) ?_
    obtain ⟨q21, hq21, hM⟩ := gb_some hM
    refine g_backI (g_runV (As := []) C hP (c_Text_wordLength C.2.2.2.2.2.2.2.2.1 hq21) gi_Text_wordLength gm_Text_37 rfl rfl (by decide) (by decide) hl.1 rfl (Nat.le_of_ble_eq_true rfl) d_Text_wordHalf_21) hS (fun H locs hP hS => ?_)
    refine lv_icmp_ge (tgt := 42) hx hb d_Text_wordHalf_24 (by decide) (fun hc24 => ?_) (fun hc24 => ?_)
    · replace hM := gi_t hc24 hM
      refine lv_iconst (v := (0 : Int32)) hx hb d_Text_wordHalf_42 (by decide) ?_
      exact t_Text_wordHalf_b43 C hM hN hE0 ls H locs (lv_sub hl [0, 1, 3] rfl) hP hS
    · replace hM := gi_f hc24 hM
      refine lv_aload_n hx hb d_Text_wordHalf_27 rfl (lv_at hl 0 rfl) ?_
      refine g_getR (b := 3) C hP gl_Text_10 rfl rfl rfl d_Text_wordHalf_28 ?_
      refine lv_aload_n hx hb d_Text_wordHalf_31 rfl (lv_at hl 0 rfl) ?_
      refine g_getI C hP gl_Text_26 rfl rfl d_Text_wordHalf_32 ?_
      refine lv_iload hx hb d_Text_wordHalf_35 (lv_at hl 3 rfl) ?_
      refine lv_iadd hx hb d_Text_wordHalf_37 ?_
      obtain ⟨hi38, hM⟩ := gc_some hM
      refine g_bald C hP rfl hi38 d_Text_wordHalf_38 ?_
      refine lv_goto (tgt := 43) hx hb d_Text_wordHalf_39 (by decide) ?_
      exact t_Text_wordHalf_b43 C hM hN hE0 ls H locs (lv_sub hl [0, 1, 3] rfl) hP hS
noncomputable def M_Text_wordHalf_L5 : (Int32 × Int64 × Int32 × gSt) → Option ((Int32 × Int64 × Int32 × gSt) ⊕ ((Int64 × gSt))) := fun x => M_Text_wordHalf_b5 x.1 x.2.1 x.2.2.1 x.2.2.2
theorem t_Text_wordHalf_L5 (C : gX "TermDesk$Text" prog_10_method_9_code 5 (some .long) 1 20 R cells slots cy D ρ A p s m args meth c) {x1 : Int32} {y2 : Int64} {x4 : Int32} {u : gSt} {yy : (Int64 × gSt)} (hL : gLp M_Text_wordHalf_L5 (x1, y2, x4, u) = some yy) (hE0 : (∀ y', yy = y' → gAt p l e R s m args below meth c Q H0 cells slots cy D ρ A 5 52 [(2, .long (y'.1))] [] (y'.2))) : gAt p l e R s m args below meth c Q H0 cells slots cy D ρ A 5 5 [(0, .ref (ρ 2)), (1, .int x1), (2, .long y2), (4, .int x4)] [] u :=
  g_loop (f := M_Text_wordHalf_L5) (P := fun x => gAt p l e R s m args below meth c Q H0 cells slots cy D ρ A 5 5 [(0, .ref (ρ 2)), (1, .int x.1), (2, .long x.2.1), (4, .int x.2.2.1)] [] x.2.2.2) (E := fun yy => (∀ y', yy = y' → gAt p l e R s m args below meth c Q H0 cells slots cy D ρ A 5 52 [(2, .long (y'.1))] [] (y'.2))) (fun x z hf hN hE => t_Text_wordHalf_b5 C hf (fun x1' y2' x4' u' h => hN (x1', y2', x4', u') h) (fun y2' u' h => (hE _ h) (y2', u') rfl)) hL hE0
noncomputable def M_Text_wordHalf (x1 : Int32) (u : gSt) : Option ((Int64 × gSt)) :=
  (gLp M_Text_wordHalf_L5 (x1, (0 : Int64), x1, u)).bind fun y5 =>
  some (y5.1, y5.2)
set_option maxHeartbeats 4000000 in
set_option maxRecDepth 100000 in
theorem t_Text_wordHalf (C : gX "TermDesk$Text" prog_10_method_9_code 5 (some .long) 1 20 R cells slots cy D ρ A p s m args meth c) {x1 : Int32} {u : gSt} {z : (Int64 × gSt)} (hM : M_Text_wordHalf x1 u = some z) (hR : gRtL p l e R s m args below meth c Q H0 cells slots cy D ρ A prog_10_method_9_code z.1 z.2) : gAt p l e R s m args below meth c Q H0 cells slots cy D ρ A 5 0 [(0, .ref (ρ 2)), (1, .int x1)] [] u := by
  intro ls H locs hl hP hS
  have hx := C.1
  have hb := C.2.1
  unfold M_Text_wordHalf at hM
  refine lv_lconst (v := 0) hx hb d_Text_wordHalf_0 (by decide) ?_
  refine lv_lstore_n (lv' := [(2, .long (0 : Int64)), (0, .ref (ρ 2)), (1, .int x1)]) hx hb d_Text_wordHalf_1 rfl hl (by decide) rfl (fun ls hl => ?_)
  refine lv_iload_n hx hb d_Text_wordHalf_2 rfl (lv_at hl 2 rfl) ?_
  refine lv_istore (lv' := [(4, .int x1), (2, .long (0 : Int64)), (0, .ref (ρ 2)), (1, .int x1)]) hx hb d_Text_wordHalf_3 hl (by decide) rfl (fun ls hl => ?_)
  obtain ⟨y5, hL5, hM⟩ := gb_some hM
  refine t_Text_wordHalf_L5 C hL5 (fun y5_0 hy => ?_) ls H locs (lv_sub hl [2, 3, 1, 0] rfl) hP hS
  · subst hy
    intro ls H locs hl hP hS
    refine lv_lload_n hx hb d_Text_wordHalf_52 rfl (lv_at hl 0 rfl) ?_
    obtain rfl := Option.some.inj hM
    exact hR _ ls H locs d_Text_wordHalf_53 hP hS
theorem c_Text_wordHalf {l : Launch} {cy : Nat → ClassId} {D : va_G} {ρ : Nat → Nat} {A : Nat → Prop} (hD : gD ρ A) {x1 : Int32} {u : gSt} {z : (Int64 × gSt)} (hM : M_Text_wordHalf x1 u = some z) : gCtL l y_Text_wordHalf prog_10_method_9_code 5 (some .long) 1 20 cy D ρ A [.ref (ρ 2), .int x1] u z.1 z.2 :=
  g_met (by decide) hD (Nat.le_of_ble_eq_true rfl) (fun p e s m below meth c ls X hl hP => t_Text_wordHalf X hM (fun pc ls H locs hd hP hS => g_lret X hP hS hd) ls _ [] hl hP va_S.rf)
end
section
variable {p : Program} {l : Launch} {e : Env} {R : Room} {s : State} {m : MethodId} {args : Array Value} {below : List Frame} {meth : Method} {c : Code} {Q : State → Prop} {H0 : Heap} {cells slots : Nat} {cy : Nat → ClassId} {D : va_G} {ρ : Nat → Nat} {A : Nat → Prop}
def y_NameList_ownerOf : MethodName := ⟨"TermDesk$NameList", "ownerOf", "(JJ)I"⟩
theorem gi_NameList_ownerOf : gMi y_NameList_ownerOf prog_7_method_4_code 6 (some .int) 2 4 := ⟨(gWs_at 516 (by decide +kernel) (by decide +kernel)), (gWs_at 515 (by decide +kernel) (by decide +kernel)), (gWs_at 10 (by decide +kernel) (by decide +kernel)), (gWs_at 121 (by decide +kernel) (by decide +kernel)), ⟨by decide +kernel, by decide +kernel, by decide +kernel⟩, _, _, rfl⟩
theorem gm_Clerk_119 : gMk "TermDesk$Clerk" 119 y_NameList_ownerOf := Or.inr ⟨"TermDesk", gNs_at 513 (by decide +kernel) (by decide +kernel)⟩
theorem d_NameList_ownerOf_0 : decode prog_7_method_4_code 0 = .ok (.iconst 0, 1) := by decide +kernel
theorem d_NameList_ownerOf_1 : decode prog_7_method_4_code 1 = .ok (.istore 5, 2) := by decide +kernel
theorem d_NameList_ownerOf_3 : decode prog_7_method_4_code 3 = .ok (.iload 5, 2) := by decide +kernel
theorem d_NameList_ownerOf_5 : decode prog_7_method_4_code 5 = .ok (.aload_n 0, 1) := by decide +kernel
theorem d_NameList_ownerOf_6 : decode prog_7_method_4_code 6 = .ok (.getfield 9, 3) := by decide +kernel
theorem d_NameList_ownerOf_9 : decode prog_7_method_4_code 9 = .ok (.if_icmp .ge 41, 3) := by decide +kernel
theorem d_NameList_ownerOf_12 : decode prog_7_method_4_code 12 = .ok (.aload_n 0, 1) := by decide +kernel
theorem d_NameList_ownerOf_13 : decode prog_7_method_4_code 13 = .ok (.getfield 15, 3) := by decide +kernel
theorem d_NameList_ownerOf_16 : decode prog_7_method_4_code 16 = .ok (.iload 5, 2) := by decide +kernel
theorem d_NameList_ownerOf_18 : decode prog_7_method_4_code 18 = .ok (.laload, 1) := by decide +kernel
theorem d_NameList_ownerOf_19 : decode prog_7_method_4_code 19 = .ok (.lload_n 1, 1) := by decide +kernel
theorem d_NameList_ownerOf_20 : decode prog_7_method_4_code 20 = .ok (.lcmp, 1) := by decide +kernel
theorem d_NameList_ownerOf_21 : decode prog_7_method_4_code 21 = .ok (.ifCond .ne 23, 3) := by decide +kernel
theorem d_NameList_ownerOf_24 : decode prog_7_method_4_code 24 = .ok (.aload_n 0, 1) := by decide +kernel
theorem d_NameList_ownerOf_25 : decode prog_7_method_4_code 25 = .ok (.getfield 19, 3) := by decide +kernel
theorem d_NameList_ownerOf_28 : decode prog_7_method_4_code 28 = .ok (.iload 5, 2) := by decide +kernel
theorem d_NameList_ownerOf_30 : decode prog_7_method_4_code 30 = .ok (.laload, 1) := by decide +kernel
theorem d_NameList_ownerOf_31 : decode prog_7_method_4_code 31 = .ok (.lload_n 3, 1) := by decide +kernel
theorem d_NameList_ownerOf_32 : decode prog_7_method_4_code 32 = .ok (.lcmp, 1) := by decide +kernel
theorem d_NameList_ownerOf_33 : decode prog_7_method_4_code 33 = .ok (.ifCond .ne 11, 3) := by decide +kernel
theorem d_NameList_ownerOf_36 : decode prog_7_method_4_code 36 = .ok (.aload_n 0, 1) := by decide +kernel
theorem d_NameList_ownerOf_37 : decode prog_7_method_4_code 37 = .ok (.getfield 22, 3) := by decide +kernel
theorem d_NameList_ownerOf_40 : decode prog_7_method_4_code 40 = .ok (.iload 5, 2) := by decide +kernel
theorem d_NameList_ownerOf_42 : decode prog_7_method_4_code 42 = .ok (.iaload, 1) := by decide +kernel
theorem d_NameList_ownerOf_43 : decode prog_7_method_4_code 43 = .ok (.ireturn, 1) := by decide +kernel
theorem d_NameList_ownerOf_44 : decode prog_7_method_4_code 44 = .ok (.iinc 5 1, 3) := by decide +kernel
theorem d_NameList_ownerOf_47 : decode prog_7_method_4_code 47 = .ok (.goto (-44), 3) := by decide +kernel
theorem d_NameList_ownerOf_50 : decode prog_7_method_4_code 50 = .ok (.iconst (-1), 1) := by decide +kernel
theorem d_NameList_ownerOf_51 : decode prog_7_method_4_code 51 = .ok (.ireturn, 1) := by decide +kernel
noncomputable def M_NameList_ownerOf_b44 (a0 : Nat) (y1 : Int64) (y3 : Int64) (x5 : Int32) (u : gSt) : Option ((Nat × Int64 × Int64 × Int32 × gSt) ⊕ ((gSt) ⊕ (Nat × Int32 × gSt))) :=
  some (.inl (a0, y1, y3, x5 + (1 : Int32), u))
set_option maxHeartbeats 4000000 in
set_option maxRecDepth 100000 in
theorem t_NameList_ownerOf_b44 (C : gX "TermDesk$NameList" prog_7_method_4_code 6 (some .int) 0 0 R cells slots cy D ρ A p s m args meth c) {a0 : Nat} {y1 : Int64} {y3 : Int64} {x5 : Int32} {u : gSt} {z : (Nat × Int64 × Int64 × Int32 × gSt) ⊕ ((gSt) ⊕ (Nat × Int32 × gSt))} (hM : M_NameList_ownerOf_b44 a0 y1 y3 x5 u = some z) (hN : ∀ a0' y1' y3' x5' u', z = .inl (a0', y1', y3', x5', u') → gAt p l e R s m args below meth c Q H0 cells slots cy D ρ A 6 3 [(0, .ref (ρ (a0'))), (1, .long (y1')), (3, .long (y3')), (5, .int (x5'))] [] (u')) (hE0 : ∀ u', z = .inr (.inl u') → gAt p l e R s m args below meth c Q H0 cells slots cy D ρ A 6 50 [] [] (u')) (hE1 : ∀ a0' x5' u', z = .inr (.inr (a0', x5', u')) → gAt p l e R s m args below meth c Q H0 cells slots cy D ρ A 6 36 [(0, .ref (ρ (a0'))), (5, .int (x5'))] [] (u')) : gAt p l e R s m args below meth c Q H0 cells slots cy D ρ A 6 44 [(0, .ref (ρ a0)), (1, .long y1), (3, .long y3), (5, .int x5)] [] u := by
  intro ls H locs hl hP hS
  have hx := C.1
  have hb := C.2.1
  unfold M_NameList_ownerOf_b44 at hM
  refine lv_iinc (k := 3) (v := x5 + (1 : Int32)) (lv' := [(5, .int (x5 + (1 : Int32))), (0, .ref (ρ a0)), (1, .long y1), (3, .long y3)]) hx hb d_NameList_ownerOf_44 hl rfl (congrArg (fun z => x5 + z) (by decide)) (by decide) rfl (fun ls hl => ?_)
  refine lv_goto (tgt := 3) hx hb d_NameList_ownerOf_47 (by decide) ?_
  exact hN _ _ _ _ _ (Option.some.inj hM).symm ls H locs (lv_sub hl [1, 2, 3, 0] rfl) hP hS
noncomputable def M_NameList_ownerOf_b3 (a0 : Nat) (y1 : Int64) (y3 : Int64) (x5 : Int32) (u : gSt) : Option ((Nat × Int64 × Int64 × Int32 × gSt) ⊕ ((gSt) ⊕ (Nat × Int32 × gSt))) :=
  gc (gK a0 == 4) <| if (u.1 a0 3) ≤ x5 then
    (some (.inr (.inl u)))
  else
    (gc (gK a0 == 4) <| (gFR a0 0).bind fun r13 => gc (gK r13 == 24) <| gc (gIn x5 (gLen r13)) <| if (lg_cmp (u.2.2.2 r13 (gIx x5)) y1) = (0 : Int32) then
      (gc (gK a0 == 4) <| (gFR a0 1).bind fun r25 => gc (gK r25 == 24) <| gc (gIn x5 (gLen r25)) <| if (lg_cmp (u.2.2.2 r25 (gIx x5)) y3) = (0 : Int32) then
        (some (.inr (.inr (a0, x5, u))))
      else
        (M_NameList_ownerOf_b44 a0 y1 y3 x5 u))
    else
      (M_NameList_ownerOf_b44 a0 y1 y3 x5 u))
set_option maxHeartbeats 4000000 in
set_option maxRecDepth 100000 in
theorem t_NameList_ownerOf_b3 (C : gX "TermDesk$NameList" prog_7_method_4_code 6 (some .int) 0 0 R cells slots cy D ρ A p s m args meth c) {a0 : Nat} {y1 : Int64} {y3 : Int64} {x5 : Int32} {u : gSt} {z : (Nat × Int64 × Int64 × Int32 × gSt) ⊕ ((gSt) ⊕ (Nat × Int32 × gSt))} (hM : M_NameList_ownerOf_b3 a0 y1 y3 x5 u = some z) (hN : ∀ a0' y1' y3' x5' u', z = .inl (a0', y1', y3', x5', u') → gAt p l e R s m args below meth c Q H0 cells slots cy D ρ A 6 3 [(0, .ref (ρ (a0'))), (1, .long (y1')), (3, .long (y3')), (5, .int (x5'))] [] (u')) (hE0 : ∀ u', z = .inr (.inl u') → gAt p l e R s m args below meth c Q H0 cells slots cy D ρ A 6 50 [] [] (u')) (hE1 : ∀ a0' x5' u', z = .inr (.inr (a0', x5', u')) → gAt p l e R s m args below meth c Q H0 cells slots cy D ρ A 6 36 [(0, .ref (ρ (a0'))), (5, .int (x5'))] [] (u')) : gAt p l e R s m args below meth c Q H0 cells slots cy D ρ A 6 3 [(0, .ref (ρ a0)), (1, .long y1), (3, .long y3), (5, .int x5)] [] u := by
  intro ls H locs hl hP hS
  have hx := C.1
  have hb := C.2.1
  unfold M_NameList_ownerOf_b3 at hM
  refine lv_iload hx hb d_NameList_ownerOf_3 (lv_at hl 3 rfl) ?_
  refine lv_aload_n hx hb d_NameList_ownerOf_5 rfl (lv_at hl 0 rfl) ?_
  obtain ⟨h6, hM⟩ := gc_some hM
  refine g_getI C hP gl_NameList_9 (eq_of_beq h6) rfl d_NameList_ownerOf_6 ?_
  refine lv_icmp_ge (tgt := 50) hx hb d_NameList_ownerOf_9 (by decide) (fun hc9 => ?_) (fun hc9 => ?_)
  · replace hM := gi_t hc9 hM
    exact hE0 _ (Option.some.inj hM).symm ls H locs (lv_sub hl [] rfl) hP hS
  · replace hM := gi_f hc9 hM
    refine lv_aload_n hx hb d_NameList_ownerOf_12 rfl (lv_at hl 0 rfl) ?_
    obtain ⟨h13, hM⟩ := gc_some hM
    obtain ⟨r13, hr13, hM⟩ := gb_some hM
    refine g_getR C hP gl_NameList_15 (eq_of_beq h13) rfl hr13 d_NameList_ownerOf_13 ?_
    refine lv_iload hx hb d_NameList_ownerOf_16 (lv_at hl 3 rfl) ?_
    obtain ⟨h18, hM⟩ := gc_some hM
    obtain ⟨hi18, hM⟩ := gc_some hM
    refine g_lald C hP (eq_of_beq h18) hi18 d_NameList_ownerOf_18 ?_
    refine lv_lload_n hx hb d_NameList_ownerOf_19 rfl (lv_at hl 1 rfl) ?_
    refine W.lcmp hx hb d_NameList_ownerOf_20 ?_
    refine lv_if_ne (tgt := 44) hx hb d_NameList_ownerOf_21 (by decide) (fun hc21 => ?_) (fun hc21 => ?_)
    · replace hM := gi_f hc21 hM
      exact t_NameList_ownerOf_b44 C hM hN hE0 hE1 ls H locs (lv_sub hl [0, 1, 2, 3] rfl) hP hS
    · replace hM := gi_t hc21 hM
      refine lv_aload_n hx hb d_NameList_ownerOf_24 rfl (lv_at hl 0 rfl) ?_
      obtain ⟨h25, hM⟩ := gc_some hM
      obtain ⟨r25, hr25, hM⟩ := gb_some hM
      refine g_getR C hP gl_NameList_19 (eq_of_beq h25) rfl hr25 d_NameList_ownerOf_25 ?_
      refine lv_iload hx hb d_NameList_ownerOf_28 (lv_at hl 3 rfl) ?_
      obtain ⟨h30, hM⟩ := gc_some hM
      obtain ⟨hi30, hM⟩ := gc_some hM
      refine g_lald C hP (eq_of_beq h30) hi30 d_NameList_ownerOf_30 ?_
      refine lv_lload_n hx hb d_NameList_ownerOf_31 rfl (lv_at hl 2 rfl) ?_
      refine W.lcmp hx hb d_NameList_ownerOf_32 ?_
      refine lv_if_ne (tgt := 44) hx hb d_NameList_ownerOf_33 (by decide) (fun hc33 => ?_) (fun hc33 => ?_)
      · replace hM := gi_f hc33 hM
        exact t_NameList_ownerOf_b44 C hM hN hE0 hE1 ls H locs (lv_sub hl [0, 1, 2, 3] rfl) hP hS
      · replace hM := gi_t hc33 hM
        exact hE1 _ _ _ (Option.some.inj hM).symm ls H locs (lv_sub hl [0, 3] rfl) hP hS
noncomputable def M_NameList_ownerOf_L3 : (Nat × Int64 × Int64 × Int32 × gSt) → Option ((Nat × Int64 × Int64 × Int32 × gSt) ⊕ ((gSt) ⊕ (Nat × Int32 × gSt))) := fun x => M_NameList_ownerOf_b3 x.1 x.2.1 x.2.2.1 x.2.2.2.1 x.2.2.2.2
theorem t_NameList_ownerOf_L3 (C : gX "TermDesk$NameList" prog_7_method_4_code 6 (some .int) 0 0 R cells slots cy D ρ A p s m args meth c) {a0 : Nat} {y1 : Int64} {y3 : Int64} {x5 : Int32} {u : gSt} {yy : (gSt) ⊕ (Nat × Int32 × gSt)} (hL : gLp M_NameList_ownerOf_L3 (a0, y1, y3, x5, u) = some yy) (hE0 : (∀ y', yy = (.inl y') → gAt p l e R s m args below meth c Q H0 cells slots cy D ρ A 6 50 [] [] (y'))) (hE1 : (∀ y', yy = (.inr y') → gAt p l e R s m args below meth c Q H0 cells slots cy D ρ A 6 36 [(0, .ref (ρ (y'.1))), (5, .int (y'.2.1))] [] (y'.2.2))) : gAt p l e R s m args below meth c Q H0 cells slots cy D ρ A 6 3 [(0, .ref (ρ a0)), (1, .long y1), (3, .long y3), (5, .int x5)] [] u :=
  g_loop (f := M_NameList_ownerOf_L3) (P := fun x => gAt p l e R s m args below meth c Q H0 cells slots cy D ρ A 6 3 [(0, .ref (ρ x.1)), (1, .long x.2.1), (3, .long x.2.2.1), (5, .int x.2.2.2.1)] [] x.2.2.2.2) (E := fun yy => (∀ y', yy = (.inl y') → gAt p l e R s m args below meth c Q H0 cells slots cy D ρ A 6 50 [] [] (y')) ∧ (∀ y', yy = (.inr y') → gAt p l e R s m args below meth c Q H0 cells slots cy D ρ A 6 36 [(0, .ref (ρ (y'.1))), (5, .int (y'.2.1))] [] (y'.2.2))) (fun x z hf hN hE => t_NameList_ownerOf_b3 C hf (fun a0' y1' y3' x5' u' h => hN (a0', y1', y3', x5', u') h) (fun u' h => (hE _ h).1 u' rfl) (fun a0' x5' u' h => (hE _ h).2 (a0', x5', u') rfl)) hL ⟨hE0, hE1⟩
noncomputable def M_NameList_ownerOf (a0 : Nat) (y1 : Int64) (y3 : Int64) (u : gSt) : Option ((Int32 × gSt)) :=
  (gLp M_NameList_ownerOf_L3 (a0, y1, y3, (0 : Int32), u)).bind fun y3 =>
  (Sum.elim (fun y3_0 => some ((-1 : Int32), y3_0)) (fun y3_1 => gc (gK y3_1.1 == 4) <| (gFR y3_1.1 2).bind fun r37 => gc (gK r37 == 22) <| gc (gIn y3_1.2.1 (gLen r37)) <| some (y3_1.2.2.2.2.1 r37 (gIx y3_1.2.1), y3_1.2.2))) y3
set_option maxHeartbeats 4000000 in
set_option maxRecDepth 100000 in
theorem t_NameList_ownerOf (C : gX "TermDesk$NameList" prog_7_method_4_code 6 (some .int) 0 0 R cells slots cy D ρ A p s m args meth c) {a0 : Nat} {y1 : Int64} {y3 : Int64} {u : gSt} {z : (Int32 × gSt)} (hM : M_NameList_ownerOf a0 y1 y3 u = some z) (hR : gRtI p l e R s m args below meth c Q H0 cells slots cy D ρ A prog_7_method_4_code z.1 z.2) : gAt p l e R s m args below meth c Q H0 cells slots cy D ρ A 6 0 [(0, .ref (ρ a0)), (1, .long y1), (3, .long y3)] [] u := by
  intro ls H locs hl hP hS
  have hx := C.1
  have hb := C.2.1
  unfold M_NameList_ownerOf at hM
  refine lv_iconst (v := (0 : Int32)) hx hb d_NameList_ownerOf_0 (by decide) ?_
  refine lv_istore (lv' := [(5, .int (0 : Int32)), (0, .ref (ρ a0)), (1, .long y1), (3, .long y3)]) hx hb d_NameList_ownerOf_1 hl (by decide) rfl (fun ls hl => ?_)
  obtain ⟨y3, hL3, hM⟩ := gb_some hM
  refine t_NameList_ownerOf_L3 C hL3 (fun y3_0 hy => ?_) (fun y3_1 hy => ?_) ls H locs (lv_sub hl [1, 2, 3, 0] rfl) hP hS
  · subst hy
    replace hM := gs_l hM
    intro ls H locs hl hP hS
    refine lv_iconst (v := (-1 : Int32)) hx hb d_NameList_ownerOf_50 (by decide) ?_
    obtain rfl := Option.some.inj hM
    exact hR _ ls H locs d_NameList_ownerOf_51 hP hS
  · subst hy
    replace hM := gs_r hM
    intro ls H locs hl hP hS
    refine lv_aload_n hx hb d_NameList_ownerOf_36 rfl (lv_at hl 0 rfl) ?_
    obtain ⟨h37, hM⟩ := gc_some hM
    obtain ⟨r37, hr37, hM⟩ := gb_some hM
    refine g_getR C hP gl_NameList_22 (eq_of_beq h37) rfl hr37 d_NameList_ownerOf_37 ?_
    refine lv_iload hx hb d_NameList_ownerOf_40 (lv_at hl 1 rfl) ?_
    obtain ⟨h42, hM⟩ := gc_some hM
    obtain ⟨hi42, hM⟩ := gc_some hM
    refine g_iald C hP (eq_of_beq h42) hi42 d_NameList_ownerOf_42 ?_
    obtain rfl := Option.some.inj hM
    exact hR _ ls H locs d_NameList_ownerOf_43 hP hS
theorem c_NameList_ownerOf {l : Launch} {cy : Nat → ClassId} {D : va_G} {ρ : Nat → Nat} {A : Nat → Prop} (hD : gD ρ A) {a0 : Nat} {y1 : Int64} {y3 : Int64} {u : gSt} {z : (Int32 × gSt)} (hM : M_NameList_ownerOf a0 y1 y3 u = some z) : gCtI l y_NameList_ownerOf prog_7_method_4_code 6 (some .int) 0 0 cy D ρ A [.ref (ρ a0), .long y1, .long y3] u z.1 z.2 :=
  g_met (by decide) hD (Nat.le_of_ble_eq_true rfl) (fun p e s m below meth c ls X hl hP => t_NameList_ownerOf X hM (fun pc ls H locs hd hP hS => g_iret X hP hS hd) ls _ [] hl hP va_S.rf)
end
