/-! printed by wip/whole/gen/gen.py -/
section
variable {p : Program} {l : Launch} {e : Env} {R : Room} {s : State} {m : MethodId} {args : Array Value} {below : List Frame} {meth : Method} {c : Code} {Q : State → Prop} {H0 : Heap} {cells slots : Nat} {cy : Nat → ClassId} {D : va_G} {ρ : Nat → Nat} {A : Nat → Prop} {K : gKd}
def y_Text_wordIs : MethodName := ⟨"TermDesk$Text", "wordIs", "(Ljava/lang/String;)Z"⟩
theorem gi_Text_wordIs : gMi y_Text_wordIs prog_10_method_6_code 3 (some .boolean) 1 2 := ⟨(gWs_at 444 (by decide +kernel) (by decide +kernel)), (gWs_at 443 (by decide +kernel) (by decide +kernel)), (gWs_at 5 (by decide +kernel) (by decide +kernel)), (gWs_at 119 (by decide +kernel) (by decide +kernel)), ⟨by decide +kernel, by decide +kernel, by decide +kernel⟩, _, _, rfl⟩
theorem gm_Clerk_98 : gMk "TermDesk$Clerk" 98 y_Text_wordIs := Or.inr ⟨"TermDesk", gNs_at 441 (by decide +kernel) (by decide +kernel)⟩
theorem d_Text_wordIs_0 : decode prog_10_method_6_code 0 = .ok (.aload_n 1, 1) := by decide +kernel
theorem d_Text_wordIs_1 : decode prog_10_method_6_code 1 = .ok (.invokevirtual 32, 3) := by decide +kernel
theorem d_Text_wordIs_4 : decode prog_10_method_6_code 4 = .ok (.aload_n 0, 1) := by decide +kernel
theorem d_Text_wordIs_5 : decode prog_10_method_6_code 5 = .ok (.invokevirtual 37, 3) := by decide +kernel
theorem d_Text_wordIs_8 : decode prog_10_method_6_code 8 = .ok (.if_icmp .eq 5, 3) := by decide +kernel
theorem d_Text_wordIs_11 : decode prog_10_method_6_code 11 = .ok (.iconst 0, 1) := by decide +kernel
theorem d_Text_wordIs_12 : decode prog_10_method_6_code 12 = .ok (.ireturn, 1) := by decide +kernel
theorem d_Text_wordIs_13 : decode prog_10_method_6_code 13 = .ok (.iconst 0, 1) := by decide +kernel
theorem d_Text_wordIs_14 : decode prog_10_method_6_code 14 = .ok (.istore_n 2, 1) := by decide +kernel
theorem d_Text_wordIs_15 : decode prog_10_method_6_code 15 = .ok (.iload_n 2, 1) := by decide +kernel
theorem d_Text_wordIs_16 : decode prog_10_method_6_code 16 = .ok (.aload_n 1, 1) := by decide +kernel
theorem d_Text_wordIs_17 : decode prog_10_method_6_code 17 = .ok (.invokevirtual 32, 3) := by decide +kernel
theorem d_Text_wordIs_20 : decode prog_10_method_6_code 20 = .ok (.if_icmp .ge 30, 3) := by decide +kernel
theorem d_Text_wordIs_23 : decode prog_10_method_6_code 23 = .ok (.aload_n 0, 1) := by decide +kernel
theorem d_Text_wordIs_24 : decode prog_10_method_6_code 24 = .ok (.getfield 10, 3) := by decide +kernel
theorem d_Text_wordIs_27 : decode prog_10_method_6_code 27 = .ok (.aload_n 0, 1) := by decide +kernel
theorem d_Text_wordIs_28 : decode prog_10_method_6_code 28 = .ok (.getfield 26, 3) := by decide +kernel
theorem d_Text_wordIs_31 : decode prog_10_method_6_code 31 = .ok (.iload_n 2, 1) := by decide +kernel
theorem d_Text_wordIs_32 : decode prog_10_method_6_code 32 = .ok (.iadd, 1) := by decide +kernel
theorem d_Text_wordIs_33 : decode prog_10_method_6_code 33 = .ok (.baload, 1) := by decide +kernel
theorem d_Text_wordIs_34 : decode prog_10_method_6_code 34 = .ok (.aload_n 1, 1) := by decide +kernel
theorem d_Text_wordIs_35 : decode prog_10_method_6_code 35 = .ok (.iload_n 2, 1) := by decide +kernel
theorem d_Text_wordIs_36 : decode prog_10_method_6_code 36 = .ok (.invokevirtual 40, 3) := by decide +kernel
theorem d_Text_wordIs_39 : decode prog_10_method_6_code 39 = .ok (.if_icmp .eq 5, 3) := by decide +kernel
theorem d_Text_wordIs_42 : decode prog_10_method_6_code 42 = .ok (.iconst 0, 1) := by decide +kernel
theorem d_Text_wordIs_43 : decode prog_10_method_6_code 43 = .ok (.ireturn, 1) := by decide +kernel
theorem d_Text_wordIs_44 : decode prog_10_method_6_code 44 = .ok (.iinc 2 1, 3) := by decide +kernel
theorem d_Text_wordIs_47 : decode prog_10_method_6_code 47 = .ok (.goto (-32), 3) := by decide +kernel
theorem d_Text_wordIs_50 : decode prog_10_method_6_code 50 = .ok (.iconst 1, 1) := by decide +kernel
theorem d_Text_wordIs_51 : decode prog_10_method_6_code 51 = .ok (.ireturn, 1) := by decide +kernel
noncomputable def M_Text_wordIs_b15 (k1 : Nat) (x2 : Int32) (u : gSt) : Option ((Nat × Int32 × gSt) ⊕ ((gSt) ⊕ (gSt))) :=
  gc (decide (k1 < 9)) <| if (gSlen k1) ≤ x2 then
    (some (.inr (.inl u)))
  else
    (gc (gIn ((u.1 2 4) + x2) (gLen 3)) <| gc (decide (k1 < 9)) <| gc (gIn x2 (gSl k1)) <| if (u.2.2.1 3 (gIx ((u.1 2 4) + x2))) = (gSch k1 x2) then
      (some (.inl (k1, x2 + (1 : Int32), u)))
    else
      (some (.inr (.inr u))))
set_option maxHeartbeats 4000000 in
set_option maxRecDepth 100000 in
theorem t_Text_wordIs_b15 (C : gX "TermDesk$Text" prog_10_method_6_code 3 (some .boolean) 4 85 R cells slots cy D ρ A p s m args meth c) (X3 : gX3 A K s s.heap) {k1 : Nat} {x2 : Int32} {u : gSt} {z : (Nat × Int32 × gSt) ⊕ ((gSt) ⊕ (gSt))} (hM : M_Text_wordIs_b15 k1 x2 u = some z) (hN : ∀ k1' x2' u', z = .inl (k1', x2', u') → gAt p l e R s m args below meth c Q s.heap cells slots cy D ρ A 3 15 [(0, .ref (ρ 2)), (1, .ref (K.2.2.2.1 (k1'))), (2, .int (x2'))] [] (u')) (hE0 : ∀ u', z = .inr (.inl u') → gAt p l e R s m args below meth c Q s.heap cells slots cy D ρ A 3 50 [] [] (u')) (hE1 : ∀ u', z = .inr (.inr u') → gAt p l e R s m args below meth c Q s.heap cells slots cy D ρ A 3 42 [] [] (u')) : gAt p l e R s m args below meth c Q s.heap cells slots cy D ρ A 3 15 [(0, .ref (ρ 2)), (1, .ref (K.2.2.2.1 k1)), (2, .int x2)] [] u := by
  intro ls H locs hl hP hS
  have hx := C.1
  have hb := C.2.1
  unfold M_Text_wordIs_b15 at hM
  refine lv_iload_n hx hb d_Text_wordIs_15 rfl (lv_at hl 2 rfl) ?_
  refine lv_aload_n hx hb d_Text_wordIs_16 rfl (lv_at hl 1 rfl) ?_
  obtain ⟨hk17, hM⟩ := gc_some hM
  refine g_callK (As := []) C X3 hP hS (k_Slength C.2.2.2.2.2.2.2.2.1 (of_decide_eq_true hk17)) gq_Slength (gWs_at 446 (by decide +kernel) (by decide +kernel)) (gWs_at 447 (by decide +kernel) (by decide +kernel)) (gWs_at 445 (by decide +kernel) (by decide +kernel)) (X3.2.2.2.1 _ (of_decide_eq_true hk17)).1 rfl (by decide) (by decide) hl.1 rfl (Nat.le_of_ble_eq_true rfl) d_Text_wordIs_17 ?_
  refine lv_icmp_ge (tgt := 50) hx hb d_Text_wordIs_20 (by decide) (fun hc20 => ?_) (fun hc20 => ?_)
  · replace hM := gi_t hc20 hM
    exact hE0 _ (Option.some.inj hM).symm ls H locs (lv_sub hl [] rfl) hP hS
  · replace hM := gi_f hc20 hM
    refine lv_aload_n hx hb d_Text_wordIs_23 rfl (lv_at hl 0 rfl) ?_
    refine g_getR (b := 3) C hP gl_Text_10 rfl rfl rfl d_Text_wordIs_24 ?_
    refine lv_aload_n hx hb d_Text_wordIs_27 rfl (lv_at hl 0 rfl) ?_
    refine g_getI C hP gl_Text_26 rfl rfl d_Text_wordIs_28 ?_
    refine lv_iload_n hx hb d_Text_wordIs_31 rfl (lv_at hl 2 rfl) ?_
    refine lv_iadd hx hb d_Text_wordIs_32 ?_
    obtain ⟨hi33, hM⟩ := gc_some hM
    refine g_bald C hP rfl hi33 d_Text_wordIs_33 ?_
    refine lv_aload_n hx hb d_Text_wordIs_34 rfl (lv_at hl 1 rfl) ?_
    refine lv_iload_n hx hb d_Text_wordIs_35 rfl (lv_at hl 2 rfl) ?_
    obtain ⟨hk36, hM⟩ := gc_some hM
    obtain ⟨hi36, hM⟩ := gc_some hM
    refine g_callK (As := [.int x2]) C X3 hP hS (k_Schar C.2.2.2.2.2.2.2.2.1 (of_decide_eq_true hk36) hi36) gq_Schar (gWs_at 460 (by decide +kernel) (by decide +kernel)) (gWs_at 461 (by decide +kernel) (by decide +kernel)) (gWs_at 459 (by decide +kernel) (by decide +kernel)) (X3.2.2.2.1 _ (of_decide_eq_true hk36)).1 rfl (by decide) (by decide) hl.1 rfl (Nat.le_of_ble_eq_true rfl) d_Text_wordIs_36 ?_
    refine lv_icmp_eq (tgt := 44) hx hb d_Text_wordIs_39 (by decide) (fun hc39 => ?_) (fun hc39 => ?_)
    · replace hM := gi_t hc39 hM
      refine lv_iinc (k := 2) (v := x2 + (1 : Int32)) (lv' := [(2, .int (x2 + (1 : Int32))), (0, .ref (ρ 2)), (1, .ref (K.2.2.2.1 k1))]) hx hb d_Text_wordIs_44 hl rfl (congrArg (fun z => x2 + z) (by decide)) (by decide) rfl (fun ls hl => ?_)
      refine lv_goto (tgt := 15) hx hb d_Text_wordIs_47 (by decide) ?_
      exact hN _ _ _ (Option.some.inj hM).symm ls H locs (lv_sub hl [1, 2, 0] rfl) hP hS
    · replace hM := gi_f hc39 hM
      exact hE1 _ (Option.some.inj hM).symm ls H locs (lv_sub hl [] rfl) hP hS
noncomputable def M_Text_wordIs_L15 : (Nat × Int32 × gSt) → Option ((Nat × Int32 × gSt) ⊕ ((gSt) ⊕ (gSt))) := fun x => M_Text_wordIs_b15 x.1 x.2.1 x.2.2
theorem t_Text_wordIs_L15 (C : gX "TermDesk$Text" prog_10_method_6_code 3 (some .boolean) 4 85 R cells slots cy D ρ A p s m args meth c) (X3 : gX3 A K s s.heap) {k1 : Nat} {x2 : Int32} {u : gSt} {yy : (gSt) ⊕ (gSt)} (hL : gLp M_Text_wordIs_L15 (k1, x2, u) = some yy) (hE0 : (∀ y', yy = (.inl y') → gAt p l e R s m args below meth c Q s.heap cells slots cy D ρ A 3 50 [] [] (y'))) (hE1 : (∀ y', yy = (.inr y') → gAt p l e R s m args below meth c Q s.heap cells slots cy D ρ A 3 42 [] [] (y'))) : gAt p l e R s m args below meth c Q s.heap cells slots cy D ρ A 3 15 [(0, .ref (ρ 2)), (1, .ref (K.2.2.2.1 k1)), (2, .int x2)] [] u :=
  g_loop (f := M_Text_wordIs_L15) (P := fun x => gAt p l e R s m args below meth c Q s.heap cells slots cy D ρ A 3 15 [(0, .ref (ρ 2)), (1, .ref (K.2.2.2.1 x.1)), (2, .int x.2.1)] [] x.2.2) (E := fun yy => (∀ y', yy = (.inl y') → gAt p l e R s m args below meth c Q s.heap cells slots cy D ρ A 3 50 [] [] (y')) ∧ (∀ y', yy = (.inr y') → gAt p l e R s m args below meth c Q s.heap cells slots cy D ρ A 3 42 [] [] (y'))) (fun x z hf hN hE => t_Text_wordIs_b15 C X3 hf (fun k1' x2' u' h => hN (k1', x2', u') h) (fun u' h => (hE _ h).1 u' rfl) (fun u' h => (hE _ h).2 u' rfl)) hL ⟨hE0, hE1⟩
noncomputable def M_Text_wordIs (k1 : Nat) (u : gSt) : Option ((Int32 × gSt)) :=
  gc (decide (k1 < 9)) <| (M_Text_wordLength u).bind fun q5 =>
  if (gSlen k1) = q5.1 then
    ((gLp M_Text_wordIs_L15 (k1, (0 : Int32), q5.2)).bind fun y15 =>
    (Sum.elim (fun y15_0 => some ((1 : Int32), y15_0)) (fun y15_1 => some ((0 : Int32), y15_1))) y15)
  else
    (some ((0 : Int32), q5.2))
set_option maxHeartbeats 4000000 in
set_option maxRecDepth 100000 in
theorem t_Text_wordIs (C : gX "TermDesk$Text" prog_10_method_6_code 3 (some .boolean) 4 85 R cells slots cy D ρ A p s m args meth c) (X3 : gX3 A K s s.heap) {k1 : Nat} {u : gSt} {z : (Int32 × gSt)} (hM : M_Text_wordIs k1 u = some z) (hR : gRtZ p l e R s m args below meth c Q s.heap cells slots cy D ρ A prog_10_method_6_code z.1 z.2) : gAt p l e R s m args below meth c Q s.heap cells slots cy D ρ A 3 0 [(0, .ref (ρ 2)), (1, .ref (K.2.2.2.1 k1))] [] u := by
  intro ls H locs hl hP hS
  have hx := C.1
  have hb := C.2.1
  unfold M_Text_wordIs at hM
  refine lv_aload_n hx hb d_Text_wordIs_0 rfl (lv_at hl 1 rfl) ?_
  obtain ⟨hk1, hM⟩ := gc_some hM
  refine g_callK (As := []) C X3 hP hS (k_Slength C.2.2.2.2.2.2.2.2.1 (of_decide_eq_true hk1)) gq_Slength (gWs_at 446 (by decide +kernel) (by decide +kernel)) (gWs_at 447 (by decide +kernel) (by decide +kernel)) (gWs_at 445 (by decide +kernel) (by decide +kernel)) (X3.2.2.2.1 _ (of_decide_eq_true hk1)).1 rfl (by decide) (by decide) hl.1 rfl (Nat.le_of_ble_eq_true rfl) d_Text_wordIs_1 ?_
  refine lv_aload_n hx hb d_Text_wordIs_4 rfl (lv_at hl 0 rfl) ?_
  obtain ⟨q5, hq5, hM⟩ := gb_some hM
  refine g_backI (g_runV (As := []) C hP (c_Text_wordLength C.2.2.2.2.2.2.2.2.1 hq5) gi_Text_wordLength gm_Text_37 rfl rfl (by decide) (by decide) hl.1 rfl (Nat.le_of_ble_eq_true rfl) d_Text_wordIs_5) hS (fun H locs hP hS => ?_)
  refine lv_icmp_eq (tgt := 13) hx hb d_Text_wordIs_8 (by decide) (fun hc8 => ?_) (fun hc8 => ?_)
  · replace hM := gi_t hc8 hM
    refine lv_iconst (v := (0 : Int32)) hx hb d_Text_wordIs_13 (by decide) ?_
    refine lv_istore_n (lv' := [(2, .int (0 : Int32)), (0, .ref (ρ 2)), (1, .ref (K.2.2.2.1 k1))]) hx hb d_Text_wordIs_14 rfl hl (by decide) rfl (fun ls hl => ?_)
    obtain ⟨y15, hL15, hM⟩ := gb_some hM
    refine t_Text_wordIs_L15 C X3 hL15 (fun y15_0 hy => ?_) (fun y15_1 hy => ?_) ls H locs (lv_sub hl [1, 2, 0] rfl) hP hS
    · subst hy
      replace hM := gs_l hM
      intro ls H locs hl hP hS
      refine lv_iconst (v := (1 : Int32)) hx hb d_Text_wordIs_50 (by decide) ?_
      obtain rfl := Option.some.inj hM
      exact hR _ ls H locs rfl d_Text_wordIs_51 hP hS
    · subst hy
      replace hM := gs_r hM
      intro ls H locs hl hP hS
      refine lv_iconst (v := (0 : Int32)) hx hb d_Text_wordIs_42 (by decide) ?_
      obtain rfl := Option.some.inj hM
      exact hR _ ls H locs rfl d_Text_wordIs_43 hP hS
  · replace hM := gi_f hc8 hM
    refine lv_iconst (v := (0 : Int32)) hx hb d_Text_wordIs_11 (by decide) ?_
    obtain rfl := Option.some.inj hM
    exact hR _ ls H locs rfl d_Text_wordIs_12 hP hS
theorem c_Text_wordIs {l : Launch} {cy : Nat → ClassId} {D : va_G} {ρ : Nat → Nat} {A : Nat → Prop} {K : gKd} (hD : gD ρ A) {k1 : Nat} {u : gSt} {z : (Int32 × gSt)} (hM : M_Text_wordIs k1 u = some z) : gCtI3 l y_Text_wordIs prog_10_method_6_code 3 (some .boolean) 4 85 cy D ρ A K [.ref (ρ 2), .ref (K.2.2.2.1 k1)] u z.1 z.2 :=
  g_met3 (by decide) hD (Nat.le_of_ble_eq_true rfl) (fun p e s m below meth c ls X X3 hl hP => t_Text_wordIs X X3 hM (fun pc ls H locs hz hd hP hS => g_zret X hP hS hz hd) ls _ [] hl hP va_S.rf)
end
section
variable {p : Program} {l : Launch} {e : Env} {R : Room} {s : State} {m : MethodId} {args : Array Value} {below : List Frame} {meth : Method} {c : Code} {Q : State → Prop} {H0 : Heap} {cells slots : Nat} {cy : Nat → ClassId} {D : va_G} {ρ : Nat → Nat} {A : Nat → Prop} {K : gKd}
def y_Clerk_kindOfWord : MethodName := ⟨"TermDesk$Clerk", "kindOfWord", "()LTermDesk$LineKind;"⟩
theorem gi_Clerk_kindOfWord : gMi y_Clerk_kindOfWord prog_4_method_4_code 2 (some (.object "TermDesk$LineKind")) 0 1 := ⟨(gWs_at 438 (by decide +kernel) (by decide +kernel)), (gWs_at 437 (by decide +kernel) (by decide +kernel)), (gWs_at 4 (by decide +kernel) (by decide +kernel)), (gWs_at 118 (by decide +kernel) (by decide +kernel)), ⟨by decide +kernel, by decide +kernel, by decide +kernel⟩, _, _, rfl⟩
theorem gm_Clerk_70 : gMk "TermDesk$Clerk" 70 y_Clerk_kindOfWord := Or.inl (gWs_at 435 (by decide +kernel) (by decide +kernel))
theorem d_Clerk_kindOfWord_0 : decode prog_4_method_4_code 0 = .ok (.iconst 0, 1) := by decide +kernel
theorem d_Clerk_kindOfWord_1 : decode prog_4_method_4_code 1 = .ok (.istore_n 1, 1) := by decide +kernel
theorem d_Clerk_kindOfWord_2 : decode prog_4_method_4_code 2 = .ok (.iload_n 1, 1) := by decide +kernel
theorem d_Clerk_kindOfWord_3 : decode prog_4_method_4_code 3 = .ok (.getstatic 90, 3) := by decide +kernel
theorem d_Clerk_kindOfWord_6 : decode prog_4_method_4_code 6 = .ok (.arraylength, 1) := by decide +kernel
theorem d_Clerk_kindOfWord_7 : decode prog_4_method_4_code 7 = .ok (.if_icmp .ge 33, 3) := by decide +kernel
theorem d_Clerk_kindOfWord_10 : decode prog_4_method_4_code 10 = .ok (.aload_n 0, 1) := by decide +kernel
theorem d_Clerk_kindOfWord_11 : decode prog_4_method_4_code 11 = .ok (.getfield 12, 3) := by decide +kernel
theorem d_Clerk_kindOfWord_14 : decode prog_4_method_4_code 14 = .ok (.getstatic 90, 3) := by decide +kernel
theorem d_Clerk_kindOfWord_17 : decode prog_4_method_4_code 17 = .ok (.iload_n 1, 1) := by decide +kernel
theorem d_Clerk_kindOfWord_18 : decode prog_4_method_4_code 18 = .ok (.aaload, 1) := by decide +kernel
theorem d_Clerk_kindOfWord_19 : decode prog_4_method_4_code 19 = .ok (.getfield 94, 3) := by decide +kernel
theorem d_Clerk_kindOfWord_22 : decode prog_4_method_4_code 22 = .ok (.invokevirtual 98, 3) := by decide +kernel
theorem d_Clerk_kindOfWord_25 : decode prog_4_method_4_code 25 = .ok (.ifCond .eq 9, 3) := by decide +kernel
theorem d_Clerk_kindOfWord_28 : decode prog_4_method_4_code 28 = .ok (.getstatic 90, 3) := by decide +kernel
theorem d_Clerk_kindOfWord_31 : decode prog_4_method_4_code 31 = .ok (.iload_n 1, 1) := by decide +kernel
theorem d_Clerk_kindOfWord_32 : decode prog_4_method_4_code 32 = .ok (.aaload, 1) := by decide +kernel
theorem d_Clerk_kindOfWord_33 : decode prog_4_method_4_code 33 = .ok (.areturn, 1) := by decide +kernel
theorem d_Clerk_kindOfWord_34 : decode prog_4_method_4_code 34 = .ok (.iinc 1 1, 3) := by decide +kernel
theorem d_Clerk_kindOfWord_37 : decode prog_4_method_4_code 37 = .ok (.goto (-35), 3) := by decide +kernel
theorem d_Clerk_kindOfWord_40 : decode prog_4_method_4_code 40 = .ok (.aconst_null, 1) := by decide +kernel
theorem d_Clerk_kindOfWord_41 : decode prog_4_method_4_code 41 = .ok (.areturn, 1) := by decide +kernel
noncomputable def M_Clerk_kindOfWord_b2 (x1 : Int32) (u : gSt) : Option ((Int32 × gSt) ⊕ ((gSt) ⊕ (Int32 × gSt))) :=
  if (9 : Int32) ≤ x1 then
    (some (.inr (.inl u)))
  else
    (gc (gIn x1 9) <| gc (decide ((gIx x1) < 9)) <| (M_Text_wordIs (gIx x1) u).bind fun q22 =>
    if q22.1 = (0 : Int32) then
      (some (.inl (x1 + (1 : Int32), q22.2)))
    else
      (some (.inr (.inr (x1, q22.2)))))
set_option maxHeartbeats 4000000 in
set_option maxRecDepth 100000 in
theorem t_Clerk_kindOfWord_b2 (C : gX "TermDesk$Clerk" prog_4_method_4_code 2 (some (.object "TermDesk$LineKind")) 5 107 R cells slots cy D ρ A p s m args meth c) (X3 : gX3 A K s s.heap) {x1 : Int32} {u : gSt} {z : (Int32 × gSt) ⊕ ((gSt) ⊕ (Int32 × gSt))} (hM : M_Clerk_kindOfWord_b2 x1 u = some z) (hN : ∀ x1' u', z = .inl (x1', u') → gAt p l e R s m args below meth c Q s.heap cells slots cy D ρ A 2 2 [(0, .ref (ρ 1)), (1, .int (x1'))] [] (u')) (hE0 : ∀ u', z = .inr (.inl u') → gAt p l e R s m args below meth c Q s.heap cells slots cy D ρ A 2 40 [] [] (u')) (hE1 : ∀ x1' u', z = .inr (.inr (x1', u')) → gAt p l e R s m args below meth c Q s.heap cells slots cy D ρ A 2 28 [(1, .int (x1'))] [] (u')) : gAt p l e R s m args below meth c Q s.heap cells slots cy D ρ A 2 2 [(0, .ref (ρ 1)), (1, .int x1)] [] u := by
  intro ls H locs hl hP hS
  have hx := C.1
  have hb := C.2.1
  unfold M_Clerk_kindOfWord_b2 at hM
  refine lv_iload_n hx hb d_Clerk_kindOfWord_2 rfl (lv_at hl 1 rfl) ?_
  refine va_getsN (host := "TermDesk") hx hb X3.1.1 hS C.2.2.2.2.1 (va_Nw.use rfl (C.2.2.2.2.2.2.1 _ (gNs_at 439 (by decide +kernel) (by decide +kernel)))) (fun _ h => h) d_Clerk_kindOfWord_3 ?_
  refine va_tlen (v := (9 : Int32)) hx hb X3.1.2 hS (by decide) d_Clerk_kindOfWord_6 ?_
  refine lv_icmp_ge (tgt := 40) hx hb d_Clerk_kindOfWord_7 (by decide) (fun hc7 => ?_) (fun hc7 => ?_)
  · replace hM := gi_t hc7 hM
    exact hE0 _ (Option.some.inj hM).symm ls H locs (lv_sub hl [] rfl) hP hS
  · replace hM := gi_f hc7 hM
    refine lv_aload_n hx hb d_Clerk_kindOfWord_10 rfl (lv_at hl 0 rfl) ?_
    refine g_getR (b := 2) C hP gl_Clerk_12 rfl rfl rfl d_Clerk_kindOfWord_11 ?_
    refine va_getsN (host := "TermDesk") hx hb X3.1.1 hS C.2.2.2.2.1 (va_Nw.use rfl (C.2.2.2.2.2.2.1 _ (gNs_at 439 (by decide +kernel) (by decide +kernel)))) (fun _ h => h) d_Clerk_kindOfWord_14 ?_
    refine lv_iload_n hx hb d_Clerk_kindOfWord_17 rfl (lv_at hl 1 rfl) ?_
    obtain ⟨hi18, hM⟩ := gc_some hM
    refine vb_tq (v := .ref (K.2.2.1 (gIx x1))) hx hb X3.1.2 hS (gIn_in hi18) rfl d_Clerk_kindOfWord_18 ?_
    obtain ⟨hk19, hM⟩ := gc_some hM
    refine g_getK (host := "TermDesk") C hS (X3.2.2.1 _ (of_decide_eq_true hk19)).2.1 (gNs_at 1419 (by decide +kernel) (by decide +kernel)) d_Clerk_kindOfWord_19 ?_
    obtain ⟨q22, hq22, hM⟩ := gb_some hM
    refine g_backI (g_runV3 (As := [.ref (K.2.2.2.1 (gIx x1))]) C X3 hP hS (c_Text_wordIs C.2.2.2.2.2.2.2.2.1 hq22) gi_Text_wordIs gm_Clerk_98 rfl rfl (by decide) (by decide) hl.1 rfl (Nat.le_of_ble_eq_true rfl) d_Clerk_kindOfWord_22) hS (fun H locs hP hS => ?_)
    refine lv_if_eq (tgt := 34) hx hb d_Clerk_kindOfWord_25 (by decide) (fun hc25 => ?_) (fun hc25 => ?_)
    · replace hM := gi_t hc25 hM
      refine lv_iinc (k := 1) (v := x1 + (1 : Int32)) (lv' := [(1, .int (x1 + (1 : Int32))), (0, .ref (ρ 1))]) hx hb d_Clerk_kindOfWord_34 hl rfl (congrArg (fun z => x1 + z) (by decide)) (by decide) rfl (fun ls hl => ?_)
      refine lv_goto (tgt := 2) hx hb d_Clerk_kindOfWord_37 (by decide) ?_
      exact hN _ _ (Option.some.inj hM).symm ls H locs (lv_sub hl [1, 0] rfl) hP hS
    · replace hM := gi_f hc25 hM
      exact hE1 _ _ (Option.some.inj hM).symm ls H locs (lv_sub hl [1] rfl) hP hS
noncomputable def M_Clerk_kindOfWord_L2 : (Int32 × gSt) → Option ((Int32 × gSt) ⊕ ((gSt) ⊕ (Int32 × gSt))) := fun x => M_Clerk_kindOfWord_b2 x.1 x.2
theorem t_Clerk_kindOfWord_L2 (C : gX "TermDesk$Clerk" prog_4_method_4_code 2 (some (.object "TermDesk$LineKind")) 5 107 R cells slots cy D ρ A p s m args meth c) (X3 : gX3 A K s s.heap) {x1 : Int32} {u : gSt} {yy : (gSt) ⊕ (Int32 × gSt)} (hL : gLp M_Clerk_kindOfWord_L2 (x1, u) = some yy) (hE0 : (∀ y', yy = (.inl y') → gAt p l e R s m args below meth c Q s.heap cells slots cy D ρ A 2 40 [] [] (y'))) (hE1 : (∀ y', yy = (.inr y') → gAt p l e R s m args below meth c Q s.heap cells slots cy D ρ A 2 28 [(1, .int (y'.1))] [] (y'.2))) : gAt p l e R s m args below meth c Q s.heap cells slots cy D ρ A 2 2 [(0, .ref (ρ 1)), (1, .int x1)] [] u :=
  g_loop (f := M_Clerk_kindOfWord_L2) (P := fun x => gAt p l e R s m args below meth c Q s.heap cells slots cy D ρ A 2 2 [(0, .ref (ρ 1)), (1, .int x.1)] [] x.2) (E := fun yy => (∀ y', yy = (.inl y') → gAt p l e R s m args below meth c Q s.heap cells slots cy D ρ A 2 40 [] [] (y')) ∧ (∀ y', yy = (.inr y') → gAt p l e R s m args below meth c Q s.heap cells slots cy D ρ A 2 28 [(1, .int (y'.1))] [] (y'.2))) (fun x z hf hN hE => t_Clerk_kindOfWord_b2 C X3 hf (fun x1' u' h => hN (x1', u') h) (fun u' h => (hE _ h).1 u' rfl) (fun x1' u' h => (hE _ h).2 (x1', u') rfl)) hL ⟨hE0, hE1⟩
noncomputable def M_Clerk_kindOfWord (u : gSt) : Option ((Option Nat × gSt)) :=
  (gLp M_Clerk_kindOfWord_L2 ((0 : Int32), u)).bind fun y2 =>
  (Sum.elim (fun y2_0 => some (none, y2_0)) (fun y2_1 => gc (gIn y2_1.1 9) <| some (some (gIx y2_1.1), y2_1.2))) y2
set_option maxHeartbeats 4000000 in
set_option maxRecDepth 100000 in
theorem t_Clerk_kindOfWord (C : gX "TermDesk$Clerk" prog_4_method_4_code 2 (some (.object "TermDesk$LineKind")) 5 107 R cells slots cy D ρ A p s m args meth c) (X3 : gX3 A K s s.heap) {u : gSt} {z : (Option Nat × gSt)} (hM : M_Clerk_kindOfWord u = some z) (hR : gRtE p l e R s m args below meth c Q s.heap cells slots cy D ρ A K prog_4_method_4_code z.1 z.2) : gAt p l e R s m args below meth c Q s.heap cells slots cy D ρ A 2 0 [(0, .ref (ρ 1))] [] u := by
  intro ls H locs hl hP hS
  have hx := C.1
  have hb := C.2.1
  unfold M_Clerk_kindOfWord at hM
  refine lv_iconst (v := (0 : Int32)) hx hb d_Clerk_kindOfWord_0 (by decide) ?_
  refine lv_istore_n (lv' := [(1, .int (0 : Int32)), (0, .ref (ρ 1))]) hx hb d_Clerk_kindOfWord_1 rfl hl (by decide) rfl (fun ls hl => ?_)
  obtain ⟨y2, hL2, hM⟩ := gb_some hM
  refine t_Clerk_kindOfWord_L2 C X3 hL2 (fun y2_0 hy => ?_) (fun y2_1 hy => ?_) ls H locs (lv_sub hl [1, 0] rfl) hP hS
  · subst hy
    replace hM := gs_l hM
    intro ls H locs hl hP hS
    refine lv_null hx hb d_Clerk_kindOfWord_40 ?_
    obtain rfl := Option.some.inj hM
    exact hR _ ls H locs d_Clerk_kindOfWord_41 hP hS
  · subst hy
    replace hM := gs_r hM
    intro ls H locs hl hP hS
    refine va_getsN (host := "TermDesk") hx hb X3.1.1 hS C.2.2.2.2.1 (va_Nw.use rfl (C.2.2.2.2.2.2.1 _ (gNs_at 439 (by decide +kernel) (by decide +kernel)))) (fun _ h => h) d_Clerk_kindOfWord_28 ?_
    refine lv_iload_n hx hb d_Clerk_kindOfWord_31 rfl (lv_at hl 0 rfl) ?_
    obtain ⟨hi32, hM⟩ := gc_some hM
    refine vb_tq (v := .ref (K.2.2.1 (gIx y2_1.1))) hx hb X3.1.2 hS (gIn_in hi32) rfl d_Clerk_kindOfWord_32 ?_
    obtain rfl := Option.some.inj hM
    exact hR _ ls H locs d_Clerk_kindOfWord_33 hP hS
theorem c_Clerk_kindOfWord {l : Launch} {cy : Nat → ClassId} {D : va_G} {ρ : Nat → Nat} {A : Nat → Prop} {K : gKd} (hD : gD ρ A) {u : gSt} {z : (Option Nat × gSt)} (hM : M_Clerk_kindOfWord u = some z) : gCtE3 l y_Clerk_kindOfWord prog_4_method_4_code 2 (some (.object "TermDesk$LineKind")) 5 107 cy D ρ A K [.ref (ρ 1)] u z.1 z.2 :=
  g_met3 (by decide) hD (Nat.le_of_ble_eq_true rfl) (fun p e s m below meth c ls X X3 hl hP => t_Clerk_kindOfWord X X3 hM (fun pc ls H locs hd hP hS => g_eret X hP hS hd) ls _ [] hl hP va_S.rf)
end
section
variable {p : Program} {l : Launch} {e : Env} {R : Room} {s : State} {m : MethodId} {args : Array Value} {below : List Frame} {meth : Method} {c : Code} {Q : State → Prop} {H0 : Heap} {cells slots : Nat} {cy : Nat → ClassId} {D : va_G} {ρ : Nat → Nat} {A : Nat → Prop} {K : gKd}
def y_Clerk_carryOut : MethodName := ⟨"TermDesk$Clerk", "carryOut", "(LTermDesk$LineKind;)I"⟩
theorem gi_Clerk_carryOut : gMi y_Clerk_carryOut prog_4_method_7_code 2 (some .int) 1 1 := ⟨(gWs_at 540 (by decide +kernel) (by decide +kernel)), (gWs_at 539 (by decide +kernel) (by decide +kernel)), (gWs_at 16 (by decide +kernel) (by decide +kernel)), (gWs_at 118 (by decide +kernel) (by decide +kernel)), ⟨by decide +kernel, by decide +kernel, by decide +kernel⟩, _, _, rfl⟩
theorem gm_Clerk_86 : gMk "TermDesk$Clerk" 86 y_Clerk_carryOut := Or.inl (gWs_at 537 (by decide +kernel) (by decide +kernel))
theorem d_Clerk_carryOut_0 : decode prog_4_method_7_code 0 = .ok (.getstatic 139, 3) := by decide +kernel
theorem d_Clerk_carryOut_3 : decode prog_4_method_7_code 3 = .ok (.aload_n 1, 1) := by decide +kernel
theorem d_Clerk_carryOut_4 : decode prog_4_method_7_code 4 = .ok (.invokevirtual 145, 3) := by decide +kernel
theorem d_Clerk_carryOut_7 : decode prog_4_method_7_code 7 = .ok (.iaload, 1) := by decide +kernel
theorem d_Clerk_carryOut_8 : decode prog_4_method_7_code 8 = .ok (.tableswitch 261 1 8 #[48, 78, 118, 118, 156, 173, 206, 244], 48) := by decide +kernel
theorem d_Clerk_carryOut_56 : decode prog_4_method_7_code 56 = .ok (.aload_n 0, 1) := by decide +kernel
theorem d_Clerk_carryOut_57 : decode prog_4_method_7_code 57 = .ok (.getfield 21, 3) := by decide +kernel
theorem d_Clerk_carryOut_60 : decode prog_4_method_7_code 60 = .ok (.invokevirtual 148, 3) := by decide +kernel
theorem d_Clerk_carryOut_63 : decode prog_4_method_7_code 63 = .ok (.ifCond .ne 6, 3) := by decide +kernel
theorem d_Clerk_carryOut_66 : decode prog_4_method_7_code 66 = .ok (.bipush 7, 2) := by decide +kernel
theorem d_Clerk_carryOut_68 : decode prog_4_method_7_code 68 = .ok (.ireturn, 1) := by decide +kernel
theorem d_Clerk_carryOut_69 : decode prog_4_method_7_code 69 = .ok (.aload_n 0, 1) := by decide +kernel
theorem d_Clerk_carryOut_70 : decode prog_4_method_7_code 70 = .ok (.getfield 21, 3) := by decide +kernel
theorem d_Clerk_carryOut_73 : decode prog_4_method_7_code 73 = .ok (.aload_n 0, 1) := by decide +kernel
theorem d_Clerk_carryOut_74 : decode prog_4_method_7_code 74 = .ok (.getfield 32, 3) := by decide +kernel
theorem d_Clerk_carryOut_77 : decode prog_4_method_7_code 77 = .ok (.aload_n 0, 1) := by decide +kernel
theorem d_Clerk_carryOut_78 : decode prog_4_method_7_code 78 = .ok (.getfield 36, 3) := by decide +kernel
theorem d_Clerk_carryOut_81 : decode prog_4_method_7_code 81 = .ok (.invokevirtual 151, 3) := by decide +kernel
theorem d_Clerk_carryOut_84 : decode prog_4_method_7_code 84 = .ok (.iconst 0, 1) := by decide +kernel
theorem d_Clerk_carryOut_85 : decode prog_4_method_7_code 85 = .ok (.ireturn, 1) := by decide +kernel
theorem d_Clerk_carryOut_86 : decode prog_4_method_7_code 86 = .ok (.aload_n 0, 1) := by decide +kernel
theorem d_Clerk_carryOut_87 : decode prog_4_method_7_code 87 = .ok (.getfield 21, 3) := by decide +kernel
theorem d_Clerk_carryOut_90 : decode prog_4_method_7_code 90 = .ok (.getfield 116, 3) := by decide +kernel
theorem d_Clerk_carryOut_93 : decode prog_4_method_7_code 93 = .ok (.invokevirtual 155, 3) := by decide +kernel
theorem d_Clerk_carryOut_96 : decode prog_4_method_7_code 96 = .ok (.ifCond .eq 6, 3) := by decide +kernel
theorem d_Clerk_carryOut_99 : decode prog_4_method_7_code 99 = .ok (.bipush 7, 2) := by decide +kernel
theorem d_Clerk_carryOut_101 : decode prog_4_method_7_code 101 = .ok (.ireturn, 1) := by decide +kernel
theorem d_Clerk_carryOut_102 : decode prog_4_method_7_code 102 = .ok (.aload_n 0, 1) := by decide +kernel
theorem d_Clerk_carryOut_103 : decode prog_4_method_7_code 103 = .ok (.getfield 21, 3) := by decide +kernel
theorem d_Clerk_carryOut_106 : decode prog_4_method_7_code 106 = .ok (.getfield 116, 3) := by decide +kernel
theorem d_Clerk_carryOut_109 : decode prog_4_method_7_code 109 = .ok (.aload_n 0, 1) := by decide +kernel
theorem d_Clerk_carryOut_110 : decode prog_4_method_7_code 110 = .ok (.getfield 32, 3) := by decide +kernel
theorem d_Clerk_carryOut_113 : decode prog_4_method_7_code 113 = .ok (.aload_n 0, 1) := by decide +kernel
theorem d_Clerk_carryOut_114 : decode prog_4_method_7_code 114 = .ok (.getfield 36, 3) := by decide +kernel
theorem d_Clerk_carryOut_117 : decode prog_4_method_7_code 117 = .ok (.aload_n 0, 1) := by decide +kernel
theorem d_Clerk_carryOut_118 : decode prog_4_method_7_code 118 = .ok (.getfield 42, 3) := by decide +kernel
theorem d_Clerk_carryOut_121 : decode prog_4_method_7_code 121 = .ok (.invokevirtual 158, 3) := by decide +kernel
theorem d_Clerk_carryOut_124 : decode prog_4_method_7_code 124 = .ok (.iconst 0, 1) := by decide +kernel
theorem d_Clerk_carryOut_125 : decode prog_4_method_7_code 125 = .ok (.ireturn, 1) := by decide +kernel
theorem d_Clerk_carryOut_126 : decode prog_4_method_7_code 126 = .ok (.aload_n 0, 1) := by decide +kernel
theorem d_Clerk_carryOut_127 : decode prog_4_method_7_code 127 = .ok (.getfield 21, 3) := by decide +kernel
theorem d_Clerk_carryOut_130 : decode prog_4_method_7_code 130 = .ok (.aload_n 0, 1) := by decide +kernel
theorem d_Clerk_carryOut_131 : decode prog_4_method_7_code 131 = .ok (.getfield 39, 3) := by decide +kernel
theorem d_Clerk_carryOut_134 : decode prog_4_method_7_code 134 = .ok (.aload_n 0, 1) := by decide +kernel
theorem d_Clerk_carryOut_135 : decode prog_4_method_7_code 135 = .ok (.getfield 42, 3) := by decide +kernel
theorem d_Clerk_carryOut_138 : decode prog_4_method_7_code 138 = .ok (.invokevirtual 162, 3) := by decide +kernel
theorem d_Clerk_carryOut_141 : decode prog_4_method_7_code 141 = .ok (.ifCond .ne 6, 3) := by decide +kernel
theorem d_Clerk_carryOut_144 : decode prog_4_method_7_code 144 = .ok (.bipush 7, 2) := by decide +kernel
theorem d_Clerk_carryOut_146 : decode prog_4_method_7_code 146 = .ok (.ireturn, 1) := by decide +kernel
theorem d_Clerk_carryOut_147 : decode prog_4_method_7_code 147 = .ok (.aload_n 0, 1) := by decide +kernel
theorem d_Clerk_carryOut_148 : decode prog_4_method_7_code 148 = .ok (.getfield 21, 3) := by decide +kernel
theorem d_Clerk_carryOut_151 : decode prog_4_method_7_code 151 = .ok (.aload_n 0, 1) := by decide +kernel
theorem d_Clerk_carryOut_152 : decode prog_4_method_7_code 152 = .ok (.getfield 39, 3) := by decide +kernel
theorem d_Clerk_carryOut_155 : decode prog_4_method_7_code 155 = .ok (.aload_n 0, 1) := by decide +kernel
theorem d_Clerk_carryOut_156 : decode prog_4_method_7_code 156 = .ok (.getfield 42, 3) := by decide +kernel
theorem d_Clerk_carryOut_159 : decode prog_4_method_7_code 159 = .ok (.invokevirtual 165, 3) := by decide +kernel
theorem d_Clerk_carryOut_162 : decode prog_4_method_7_code 162 = .ok (.iconst 0, 1) := by decide +kernel
theorem d_Clerk_carryOut_163 : decode prog_4_method_7_code 163 = .ok (.ireturn, 1) := by decide +kernel
theorem d_Clerk_carryOut_164 : decode prog_4_method_7_code 164 = .ok (.aload_n 0, 1) := by decide +kernel
theorem d_Clerk_carryOut_165 : decode prog_4_method_7_code 165 = .ok (.getfield 21, 3) := by decide +kernel
theorem d_Clerk_carryOut_168 : decode prog_4_method_7_code 168 = .ok (.getfield 169, 3) := by decide +kernel
theorem d_Clerk_carryOut_171 : decode prog_4_method_7_code 171 = .ok (.iconst 0, 1) := by decide +kernel
theorem d_Clerk_carryOut_172 : decode prog_4_method_7_code 172 = .ok (.aload_n 0, 1) := by decide +kernel
theorem d_Clerk_carryOut_173 : decode prog_4_method_7_code 173 = .ok (.getfield 42, 3) := by decide +kernel
theorem d_Clerk_carryOut_176 : decode prog_4_method_7_code 176 = .ok (.invokevirtual 173, 3) := by decide +kernel
theorem d_Clerk_carryOut_179 : decode prog_4_method_7_code 179 = .ok (.iconst 0, 1) := by decide +kernel
theorem d_Clerk_carryOut_180 : decode prog_4_method_7_code 180 = .ok (.ireturn, 1) := by decide +kernel
theorem d_Clerk_carryOut_181 : decode prog_4_method_7_code 181 = .ok (.aload_n 0, 1) := by decide +kernel
theorem d_Clerk_carryOut_182 : decode prog_4_method_7_code 182 = .ok (.getfield 21, 3) := by decide +kernel
theorem d_Clerk_carryOut_185 : decode prog_4_method_7_code 185 = .ok (.getfield 112, 3) := by decide +kernel
theorem d_Clerk_carryOut_188 : decode prog_4_method_7_code 188 = .ok (.invokevirtual 155, 3) := by decide +kernel
theorem d_Clerk_carryOut_191 : decode prog_4_method_7_code 191 = .ok (.ifCond .eq 6, 3) := by decide +kernel
theorem d_Clerk_carryOut_194 : decode prog_4_method_7_code 194 = .ok (.bipush 7, 2) := by decide +kernel
theorem d_Clerk_carryOut_196 : decode prog_4_method_7_code 196 = .ok (.ireturn, 1) := by decide +kernel
theorem d_Clerk_carryOut_197 : decode prog_4_method_7_code 197 = .ok (.aload_n 0, 1) := by decide +kernel
theorem d_Clerk_carryOut_198 : decode prog_4_method_7_code 198 = .ok (.getfield 21, 3) := by decide +kernel
theorem d_Clerk_carryOut_201 : decode prog_4_method_7_code 201 = .ok (.aload_n 0, 1) := by decide +kernel
theorem d_Clerk_carryOut_202 : decode prog_4_method_7_code 202 = .ok (.getfield 32, 3) := by decide +kernel
theorem d_Clerk_carryOut_205 : decode prog_4_method_7_code 205 = .ok (.aload_n 0, 1) := by decide +kernel
theorem d_Clerk_carryOut_206 : decode prog_4_method_7_code 206 = .ok (.getfield 36, 3) := by decide +kernel
theorem d_Clerk_carryOut_209 : decode prog_4_method_7_code 209 = .ok (.invokevirtual 178, 3) := by decide +kernel
theorem d_Clerk_carryOut_212 : decode prog_4_method_7_code 212 = .ok (.iconst 0, 1) := by decide +kernel
theorem d_Clerk_carryOut_213 : decode prog_4_method_7_code 213 = .ok (.ireturn, 1) := by decide +kernel
theorem d_Clerk_carryOut_214 : decode prog_4_method_7_code 214 = .ok (.aload_n 0, 1) := by decide +kernel
theorem d_Clerk_carryOut_215 : decode prog_4_method_7_code 215 = .ok (.getfield 21, 3) := by decide +kernel
theorem d_Clerk_carryOut_218 : decode prog_4_method_7_code 218 = .ok (.aload_n 0, 1) := by decide +kernel
theorem d_Clerk_carryOut_219 : decode prog_4_method_7_code 219 = .ok (.getfield 39, 3) := by decide +kernel
theorem d_Clerk_carryOut_222 : decode prog_4_method_7_code 222 = .ok (.aload_n 0, 1) := by decide +kernel
theorem d_Clerk_carryOut_223 : decode prog_4_method_7_code 223 = .ok (.getfield 42, 3) := by decide +kernel
theorem d_Clerk_carryOut_226 : decode prog_4_method_7_code 226 = .ok (.invokevirtual 181, 3) := by decide +kernel
theorem d_Clerk_carryOut_229 : decode prog_4_method_7_code 229 = .ok (.ifCond .ne 6, 3) := by decide +kernel
theorem d_Clerk_carryOut_232 : decode prog_4_method_7_code 232 = .ok (.bipush 7, 2) := by decide +kernel
theorem d_Clerk_carryOut_234 : decode prog_4_method_7_code 234 = .ok (.ireturn, 1) := by decide +kernel
theorem d_Clerk_carryOut_235 : decode prog_4_method_7_code 235 = .ok (.aload_n 0, 1) := by decide +kernel
theorem d_Clerk_carryOut_236 : decode prog_4_method_7_code 236 = .ok (.getfield 21, 3) := by decide +kernel
theorem d_Clerk_carryOut_239 : decode prog_4_method_7_code 239 = .ok (.aload_n 0, 1) := by decide +kernel
theorem d_Clerk_carryOut_240 : decode prog_4_method_7_code 240 = .ok (.getfield 39, 3) := by decide +kernel
theorem d_Clerk_carryOut_243 : decode prog_4_method_7_code 243 = .ok (.aload_n 0, 1) := by decide +kernel
theorem d_Clerk_carryOut_244 : decode prog_4_method_7_code 244 = .ok (.getfield 42, 3) := by decide +kernel
theorem d_Clerk_carryOut_247 : decode prog_4_method_7_code 247 = .ok (.invokevirtual 184, 3) := by decide +kernel
theorem d_Clerk_carryOut_250 : decode prog_4_method_7_code 250 = .ok (.iconst 0, 1) := by decide +kernel
theorem d_Clerk_carryOut_251 : decode prog_4_method_7_code 251 = .ok (.ireturn, 1) := by decide +kernel
theorem d_Clerk_carryOut_252 : decode prog_4_method_7_code 252 = .ok (.aload_n 0, 1) := by decide +kernel
theorem d_Clerk_carryOut_253 : decode prog_4_method_7_code 253 = .ok (.getfield 21, 3) := by decide +kernel
theorem d_Clerk_carryOut_256 : decode prog_4_method_7_code 256 = .ok (.getfield 187, 3) := by decide +kernel
theorem d_Clerk_carryOut_259 : decode prog_4_method_7_code 259 = .ok (.iconst 0, 1) := by decide +kernel
theorem d_Clerk_carryOut_260 : decode prog_4_method_7_code 260 = .ok (.aload_n 0, 1) := by decide +kernel
theorem d_Clerk_carryOut_261 : decode prog_4_method_7_code 261 = .ok (.getfield 42, 3) := by decide +kernel
theorem d_Clerk_carryOut_264 : decode prog_4_method_7_code 264 = .ok (.invokevirtual 173, 3) := by decide +kernel
theorem d_Clerk_carryOut_267 : decode prog_4_method_7_code 267 = .ok (.iconst 0, 1) := by decide +kernel
theorem d_Clerk_carryOut_268 : decode prog_4_method_7_code 268 = .ok (.ireturn, 1) := by decide +kernel
theorem d_Clerk_carryOut_269 : decode prog_4_method_7_code 269 = .ok (.iconst 0, 1) := by decide +kernel
theorem d_Clerk_carryOut_270 : decode prog_4_method_7_code 270 = .ok (.ireturn, 1) := by decide +kernel
noncomputable def M_Clerk_carryOut (k1 : Nat) (u : gSt) : Option ((Int32 × gSt)) :=
  gc (decide (k1 < 9)) <| gc (gIn (nI k1) 9) <| if (gSwt.getD (gIx (nI k1)) 0) = (1 : Int32) then
    ((M_Board_canAddTerm u).bind fun q60 =>
    if q60.1 = (0 : Int32) then
      (some ((7 : Int32), q60.2))
    else
      ((M_Board_addTerm (q60.2.2.1 1 4) (q60.2.2.1 1 5) q60.2).bind fun q81 =>
      some ((0 : Int32), q81)))
  else if (gSwt.getD (gIx (nI k1)) 0) = (2 : Int32) then
    ((M_NameList_isFull 5 u).bind fun q93 =>
    if q93.1 = (0 : Int32) then
      ((M_NameList_add 5 (q93.2.2.1 1 4) (q93.2.2.1 1 5) (q93.2.1 1 7) q93.2).bind fun q121 =>
      some ((0 : Int32), q121))
    else
      (some ((7 : Int32), q93.2)))
  else if (gSwt.getD (gIx (nI k1)) 0) = (3 : Int32) then
    ((M_Board_canLink (u.1 1 6) (u.1 1 7) u).bind fun q138 =>
    if q138.1 = (0 : Int32) then
      (some ((7 : Int32), q138.2))
    else
      ((M_Board_link (q138.2.1 1 6) (q138.2.1 1 7) q138.2).bind fun q159 =>
      some ((0 : Int32), q159)))
  else if (gSwt.getD (gIx (nI k1)) 0) = (4 : Int32) then
    ((M_Board_canLink (u.1 1 6) (u.1 1 7) u).bind fun q138 =>
    if q138.1 = (0 : Int32) then
      (some ((7 : Int32), q138.2))
    else
      ((M_Board_link (q138.2.1 1 6) (q138.2.1 1 7) q138.2).bind fun q159 =>
      some ((0 : Int32), q159)))
  else if (gSwt.getD (gIx (nI k1)) 0) = (5 : Int32) then
    ((M_Grid_put 21 (0 : Int32) (u.1 1 7) u).bind fun q176 =>
    some ((0 : Int32), q176))
  else if (gSwt.getD (gIx (nI k1)) 0) = (6 : Int32) then
    ((M_NameList_isFull 9 u).bind fun q188 =>
    if q188.1 = (0 : Int32) then
      ((M_Board_addGene (q188.2.2.1 1 4) (q188.2.2.1 1 5) q188.2).bind fun q209 =>
      some ((0 : Int32), q209))
    else
      (some ((7 : Int32), q188.2)))
  else if (gSwt.getD (gIx (nI k1)) 0) = (7 : Int32) then
    ((M_Board_canNote (u.1 1 6) (u.1 1 7) u).bind fun q226 =>
    if q226.1 = (0 : Int32) then
      (some ((7 : Int32), q226.2))
    else
      ((M_Board_note (q226.2.1 1 6) (q226.2.1 1 7) q226.2).bind fun q247 =>
      some ((0 : Int32), q247)))
  else if (gSwt.getD (gIx (nI k1)) 0) = (8 : Int32) then
    ((M_Grid_put 23 (0 : Int32) (u.1 1 7) u).bind fun q264 =>
    some ((0 : Int32), q264))
  else 
    (some ((0 : Int32), u))
set_option maxHeartbeats 4000000 in
set_option maxRecDepth 100000 in
theorem t_Clerk_carryOut (C : gX "TermDesk$Clerk" prog_4_method_7_code 2 (some .int) 3 67 R cells slots cy D ρ A p s m args meth c) (X3 : gX3 A K s s.heap) {k1 : Nat} {u : gSt} {z : (Int32 × gSt)} (hM : M_Clerk_carryOut k1 u = some z) (hR : gRtI p l e R s m args below meth c Q s.heap cells slots cy D ρ A prog_4_method_7_code z.1 z.2) : gAt p l e R s m args below meth c Q s.heap cells slots cy D ρ A 2 0 [(0, .ref (ρ 1)), (1, .ref (K.2.2.1 k1))] [] u := by
  intro ls H locs hl hP hS
  have hx := C.1
  have hb := C.2.1
  unfold M_Clerk_carryOut at hM
  refine va_gets hx hb X3.2.1.1 hS C.2.2.2.2.1 (C.2.2.2.2.2.1 _ (gWs_at 541 (by decide +kernel) (by decide +kernel))) (fun _ h => h) d_Clerk_carryOut_0 ?_
  refine lv_aload_n hx hb d_Clerk_carryOut_3 rfl (lv_at hl 1 rfl) ?_
  obtain ⟨hk4, hM⟩ := gc_some hM
  refine g_ordinal C X3 hS (of_decide_eq_true hk4) (by decide) (by decide) hl.1 (Nat.le_of_ble_eq_true rfl) d_Clerk_carryOut_4 ?_
  obtain ⟨hi7, hM⟩ := gc_some hM
  refine va_ti (v := .int (gSwt.getD (gIx (nI k1)) 0)) hx hb X3.2.1.2 hS (gIn_in hi7) rfl d_Clerk_carryOut_7 ?_
  by_cases hc8_0 : (gSwt.getD (gIx (nI k1)) 0) = (1 : Int32)
  · replace hM := gi_t hc8_0 hM
    refine g_tabIn (v := 1) (tgt := 56) hx hb d_Clerk_carryOut_8 hc8_0 (by decide) (by decide) (off := 48) (by decide) (by decide) ?_
    refine lv_aload_n hx hb d_Clerk_carryOut_56 rfl (lv_at hl 0 rfl) ?_
    refine g_getR (b := 4) C hP gl_Clerk_21 rfl rfl rfl d_Clerk_carryOut_57 ?_
    obtain ⟨q60, hq60, hM⟩ := gb_some hM
    refine g_backI (g_runV (As := []) C hP (c_Board_canAddTerm C.2.2.2.2.2.2.2.2.1 hq60) gi_Board_canAddTerm gm_Clerk_148 rfl rfl (by decide) (by decide) hl.1 rfl (Nat.le_of_ble_eq_true rfl) d_Clerk_carryOut_60) hS (fun H locs hP hS => ?_)
    refine lv_if_ne (tgt := 69) hx hb d_Clerk_carryOut_63 (by decide) (fun hc63 => ?_) (fun hc63 => ?_)
    · replace hM := gi_f hc63 hM
      refine lv_aload_n hx hb d_Clerk_carryOut_69 rfl (lv_at hl 0 rfl) ?_
      refine g_getR (b := 4) C hP gl_Clerk_21 rfl rfl rfl d_Clerk_carryOut_70 ?_
      refine lv_aload_n hx hb d_Clerk_carryOut_73 rfl (lv_at hl 0 rfl) ?_
      refine g_getL C hP gl_Clerk_32 rfl rfl d_Clerk_carryOut_74 ?_
      refine lv_aload_n hx hb d_Clerk_carryOut_77 rfl (lv_at hl 0 rfl) ?_
      refine g_getL C hP gl_Clerk_36 rfl rfl d_Clerk_carryOut_78 ?_
      obtain ⟨q81, hq81, hM⟩ := gb_some hM
      refine g_backV (g_runV (As := [.long (q60.2.2.1 1 4), .long (q60.2.2.1 1 5)]) C hP (c_Board_addTerm C.2.2.2.2.2.2.2.2.1 hq81) gi_Board_addTerm gm_Clerk_151 rfl rfl (by decide) (by decide) hl.1 rfl (Nat.le_of_ble_eq_true rfl) d_Clerk_carryOut_81) hS (fun H locs hP hS => ?_)
      refine lv_iconst (v := (0 : Int32)) hx hb d_Clerk_carryOut_84 (by decide) ?_
      obtain rfl := Option.some.inj hM
      exact hR _ ls H locs d_Clerk_carryOut_85 hP hS
    · replace hM := gi_t hc63 hM
      refine lv_bipush (v := (7 : Int32)) hx hb d_Clerk_carryOut_66 (by decide) ?_
      obtain rfl := Option.some.inj hM
      exact hR _ ls H locs d_Clerk_carryOut_68 hP hS
  replace hM := gi_f hc8_0 hM
  by_cases hc8_1 : (gSwt.getD (gIx (nI k1)) 0) = (2 : Int32)
  · replace hM := gi_t hc8_1 hM
    refine g_tabIn (v := 2) (tgt := 86) hx hb d_Clerk_carryOut_8 hc8_1 (by decide) (by decide) (off := 78) (by decide) (by decide) ?_
    refine lv_aload_n hx hb d_Clerk_carryOut_86 rfl (lv_at hl 0 rfl) ?_
    refine g_getR (b := 4) C hP gl_Clerk_21 rfl rfl rfl d_Clerk_carryOut_87 ?_
    refine g_getR (b := 5) C hP gl_Clerk_116 rfl rfl rfl d_Clerk_carryOut_90 ?_
    obtain ⟨q93, hq93, hM⟩ := gb_some hM
    refine g_backI (g_runV (As := []) C hP (c_NameList_isFull C.2.2.2.2.2.2.2.2.1 hq93) gi_NameList_isFull gm_Clerk_155 rfl rfl (by decide) (by decide) hl.1 rfl (Nat.le_of_ble_eq_true rfl) d_Clerk_carryOut_93) hS (fun H locs hP hS => ?_)
    refine lv_if_eq (tgt := 102) hx hb d_Clerk_carryOut_96 (by decide) (fun hc96 => ?_) (fun hc96 => ?_)
    · replace hM := gi_t hc96 hM
      refine lv_aload_n hx hb d_Clerk_carryOut_102 rfl (lv_at hl 0 rfl) ?_
      refine g_getR (b := 4) C hP gl_Clerk_21 rfl rfl rfl d_Clerk_carryOut_103 ?_
      refine g_getR (b := 5) C hP gl_Clerk_116 rfl rfl rfl d_Clerk_carryOut_106 ?_
      refine lv_aload_n hx hb d_Clerk_carryOut_109 rfl (lv_at hl 0 rfl) ?_
      refine g_getL C hP gl_Clerk_32 rfl rfl d_Clerk_carryOut_110 ?_
      refine lv_aload_n hx hb d_Clerk_carryOut_113 rfl (lv_at hl 0 rfl) ?_
      refine g_getL C hP gl_Clerk_36 rfl rfl d_Clerk_carryOut_114 ?_
      refine lv_aload_n hx hb d_Clerk_carryOut_117 rfl (lv_at hl 0 rfl) ?_
      refine g_getI C hP gl_Clerk_42 rfl rfl d_Clerk_carryOut_118 ?_
      obtain ⟨q121, hq121, hM⟩ := gb_some hM
      refine g_backV (g_runV (As := [.long (q93.2.2.1 1 4), .long (q93.2.2.1 1 5), .int (q93.2.1 1 7)]) C hP (c_NameList_add C.2.2.2.2.2.2.2.2.1 hq121) gi_NameList_add gm_Clerk_158 rfl rfl (by decide) (by decide) hl.1 rfl (Nat.le_of_ble_eq_true rfl) d_Clerk_carryOut_121) hS (fun H locs hP hS => ?_)
      refine lv_iconst (v := (0 : Int32)) hx hb d_Clerk_carryOut_124 (by decide) ?_
      obtain rfl := Option.some.inj hM
      exact hR _ ls H locs d_Clerk_carryOut_125 hP hS
    · replace hM := gi_f hc96 hM
      refine lv_bipush (v := (7 : Int32)) hx hb d_Clerk_carryOut_99 (by decide) ?_
      obtain rfl := Option.some.inj hM
      exact hR _ ls H locs d_Clerk_carryOut_101 hP hS
  replace hM := gi_f hc8_1 hM
  by_cases hc8_2 : (gSwt.getD (gIx (nI k1)) 0) = (3 : Int32)
  · replace hM := gi_t hc8_2 hM
    refine g_tabIn (v := 3) (tgt := 126) hx hb d_Clerk_carryOut_8 hc8_2 (by decide) (by decide) (off := 118) (by decide) (by decide) ?_
    refine lv_aload_n hx hb d_Clerk_carryOut_126 rfl (lv_at hl 0 rfl) ?_
    refine g_getR (b := 4) C hP gl_Clerk_21 rfl rfl rfl d_Clerk_carryOut_127 ?_
    refine lv_aload_n hx hb d_Clerk_carryOut_130 rfl (lv_at hl 0 rfl) ?_
    refine g_getI C hP gl_Clerk_39 rfl rfl d_Clerk_carryOut_131 ?_
    refine lv_aload_n hx hb d_Clerk_carryOut_134 rfl (lv_at hl 0 rfl) ?_
    refine g_getI C hP gl_Clerk_42 rfl rfl d_Clerk_carryOut_135 ?_
    obtain ⟨q138, hq138, hM⟩ := gb_some hM
    refine g_backI (g_runV (As := [.int (u.1 1 6), .int (u.1 1 7)]) C hP (c_Board_canLink C.2.2.2.2.2.2.2.2.1 hq138) gi_Board_canLink gm_Clerk_162 rfl rfl (by decide) (by decide) hl.1 rfl (Nat.le_of_ble_eq_true rfl) d_Clerk_carryOut_138) hS (fun H locs hP hS => ?_)
    refine lv_if_ne (tgt := 147) hx hb d_Clerk_carryOut_141 (by decide) (fun hc141 => ?_) (fun hc141 => ?_)
    · replace hM := gi_f hc141 hM
      refine lv_aload_n hx hb d_Clerk_carryOut_147 rfl (lv_at hl 0 rfl) ?_
      refine g_getR (b := 4) C hP gl_Clerk_21 rfl rfl rfl d_Clerk_carryOut_148 ?_
      refine lv_aload_n hx hb d_Clerk_carryOut_151 rfl (lv_at hl 0 rfl) ?_
      refine g_getI C hP gl_Clerk_39 rfl rfl d_Clerk_carryOut_152 ?_
      refine lv_aload_n hx hb d_Clerk_carryOut_155 rfl (lv_at hl 0 rfl) ?_
      refine g_getI C hP gl_Clerk_42 rfl rfl d_Clerk_carryOut_156 ?_
      obtain ⟨q159, hq159, hM⟩ := gb_some hM
      refine g_backV (g_runV (As := [.int (q138.2.1 1 6), .int (q138.2.1 1 7)]) C hP (c_Board_link C.2.2.2.2.2.2.2.2.1 hq159) gi_Board_link gm_Clerk_165 rfl rfl (by decide) (by decide) hl.1 rfl (Nat.le_of_ble_eq_true rfl) d_Clerk_carryOut_159) hS (fun H locs hP hS => ?_)
      refine lv_iconst (v := (0 : Int32)) hx hb d_Clerk_carryOut_162 (by decide) ?_
      obtain rfl := Option.some.inj hM
      exact hR _ ls H locs d_Clerk_carryOut_163 hP hS
    · replace hM := gi_t hc141 hM
      refine lv_bipush (v := (7 : Int32)) hx hb d_Clerk_carryOut_144 (by decide) ?_
      obtain rfl := Option.some.inj hM
      exact hR _ ls H locs d_Clerk_carryOut_146 hP hS
  replace hM := gi_f hc8_2 hM
  by_cases hc8_3 : (gSwt.getD (gIx (nI k1)) 0) = (4 : Int32)
  · replace hM := gi_t hc8_3 hM
    refine g_tabIn (v := 4) (tgt := 126) hx hb d_Clerk_carryOut_8 hc8_3 (by decide) (by decide) (off := 118) (by decide) (by decide) ?_
    refine lv_aload_n hx hb d_Clerk_carryOut_126 rfl (lv_at hl 0 rfl) ?_
    refine g_getR (b := 4) C hP gl_Clerk_21 rfl rfl rfl d_Clerk_carryOut_127 ?_
    refine lv_aload_n hx hb d_Clerk_carryOut_130 rfl (lv_at hl 0 rfl) ?_
    refine g_getI C hP gl_Clerk_39 rfl rfl d_Clerk_carryOut_131 ?_
    refine lv_aload_n hx hb d_Clerk_carryOut_134 rfl (lv_at hl 0 rfl) ?_
    refine g_getI C hP gl_Clerk_42 rfl rfl d_Clerk_carryOut_135 ?_
    obtain ⟨q138, hq138, hM⟩ := gb_some hM
    refine g_backI (g_runV (As := [.int (u.1 1 6), .int (u.1 1 7)]) C hP (c_Board_canLink C.2.2.2.2.2.2.2.2.1 hq138) gi_Board_canLink gm_Clerk_162 rfl rfl (by decide) (by decide) hl.1 rfl (Nat.le_of_ble_eq_true rfl) d_Clerk_carryOut_138) hS (fun H locs hP hS => ?_)
    refine lv_if_ne (tgt := 147) hx hb d_Clerk_carryOut_141 (by decide) (fun hc141 => ?_) (fun hc141 => ?_)
    · replace hM := gi_f hc141 hM
      refine lv_aload_n hx hb d_Clerk_carryOut_147 rfl (lv_at hl 0 rfl) ?_
      refine g_getR (b := 4) C hP gl_Clerk_21 rfl rfl rfl d_Clerk_carryOut_148 ?_
      refine lv_aload_n hx hb d_Clerk_carryOut_151 rfl (lv_at hl 0 rfl) ?_
      refine g_getI C hP gl_Clerk_39 rfl rfl d_Clerk_carryOut_152 ?_
      refine lv_aload_n hx hb d_Clerk_carryOut_155 rfl (lv_at hl 0 rfl) ?_
      refine g_getI C hP gl_Clerk_42 rfl rfl d_Clerk_carryOut_156 ?_
      obtain ⟨q159, hq159, hM⟩ := gb_some hM
      refine g_backV (g_runV (As := [.int (q138.2.1 1 6), .int (q138.2.1 1 7)]) C hP (c_Board_link C.2.2.2.2.2.2.2.2.1 hq159) gi_Board_link gm_Clerk_165 rfl rfl (by decide) (by decide) hl.1 rfl (Nat.le_of_ble_eq_true rfl) d_Clerk_carryOut_159) hS (fun H locs hP hS => ?_)
      refine lv_iconst (v := (0 : Int32)) hx hb d_Clerk_carryOut_162 (by decide) ?_
      obtain rfl := Option.some.inj hM
      exact hR _ ls H locs d_Clerk_carryOut_163 hP hS
    · replace hM := gi_t hc141 hM
      refine lv_bipush (v := (7 : Int32)) hx hb d_Clerk_carryOut_144 (by decide) ?_
      obtain rfl := Option.some.inj hM
      exact hR _ ls H locs d_Clerk_carryOut_146 hP hS
  replace hM := gi_f hc8_3 hM
  by_cases hc8_4 : (gSwt.getD (gIx (nI k1)) 0) = (5 : Int32)
  · replace hM := gi_t hc8_4 hM
    refine g_tabIn (v := 5) (tgt := 164) hx hb d_Clerk_carryOut_8 hc8_4 (by decide) (by decide) (off := 156) (by decide) (by decide) ?_
    refine lv_aload_n hx hb d_Clerk_carryOut_164 rfl (lv_at hl 0 rfl) ?_
    refine g_getR (b := 4) C hP gl_Clerk_21 rfl rfl rfl d_Clerk_carryOut_165 ?_
    refine g_getR (b := 21) C hP gl_Clerk_169 rfl rfl rfl d_Clerk_carryOut_168 ?_
    refine lv_iconst (v := (0 : Int32)) hx hb d_Clerk_carryOut_171 (by decide) ?_
    refine lv_aload_n hx hb d_Clerk_carryOut_172 rfl (lv_at hl 0 rfl) ?_
    refine g_getI C hP gl_Clerk_42 rfl rfl d_Clerk_carryOut_173 ?_
    obtain ⟨q176, hq176, hM⟩ := gb_some hM
    refine g_backV (g_runV (As := [.int (0 : Int32), .int (u.1 1 7)]) C hP (c_Grid_put C.2.2.2.2.2.2.2.2.1 hq176) gi_Grid_put gm_Clerk_173 rfl rfl (by decide) (by decide) hl.1 rfl (Nat.le_of_ble_eq_true rfl) d_Clerk_carryOut_176) hS (fun H locs hP hS => ?_)
    refine lv_iconst (v := (0 : Int32)) hx hb d_Clerk_carryOut_179 (by decide) ?_
    obtain rfl := Option.some.inj hM
    exact hR _ ls H locs d_Clerk_carryOut_180 hP hS
  replace hM := gi_f hc8_4 hM
  by_cases hc8_5 : (gSwt.getD (gIx (nI k1)) 0) = (6 : Int32)
  · replace hM := gi_t hc8_5 hM
    refine g_tabIn (v := 6) (tgt := 181) hx hb d_Clerk_carryOut_8 hc8_5 (by decide) (by decide) (off := 173) (by decide) (by decide) ?_
    refine lv_aload_n hx hb d_Clerk_carryOut_181 rfl (lv_at hl 0 rfl) ?_
    refine g_getR (b := 4) C hP gl_Clerk_21 rfl rfl rfl d_Clerk_carryOut_182 ?_
    refine g_getR (b := 9) C hP gl_Clerk_112 rfl rfl rfl d_Clerk_carryOut_185 ?_
    obtain ⟨q188, hq188, hM⟩ := gb_some hM
    refine g_backI (g_runV (As := []) C hP (c_NameList_isFull C.2.2.2.2.2.2.2.2.1 hq188) gi_NameList_isFull gm_Clerk_155 rfl rfl (by decide) (by decide) hl.1 rfl (Nat.le_of_ble_eq_true rfl) d_Clerk_carryOut_188) hS (fun H locs hP hS => ?_)
    refine lv_if_eq (tgt := 197) hx hb d_Clerk_carryOut_191 (by decide) (fun hc191 => ?_) (fun hc191 => ?_)
    · replace hM := gi_t hc191 hM
      refine lv_aload_n hx hb d_Clerk_carryOut_197 rfl (lv_at hl 0 rfl) ?_
      refine g_getR (b := 4) C hP gl_Clerk_21 rfl rfl rfl d_Clerk_carryOut_198 ?_
      refine lv_aload_n hx hb d_Clerk_carryOut_201 rfl (lv_at hl 0 rfl) ?_
      refine g_getL C hP gl_Clerk_32 rfl rfl d_Clerk_carryOut_202 ?_
      refine lv_aload_n hx hb d_Clerk_carryOut_205 rfl (lv_at hl 0 rfl) ?_
      refine g_getL C hP gl_Clerk_36 rfl rfl d_Clerk_carryOut_206 ?_
      obtain ⟨q209, hq209, hM⟩ := gb_some hM
      refine g_backV (g_runV (As := [.long (q188.2.2.1 1 4), .long (q188.2.2.1 1 5)]) C hP (c_Board_addGene C.2.2.2.2.2.2.2.2.1 hq209) gi_Board_addGene gm_Clerk_178 rfl rfl (by decide) (by decide) hl.1 rfl (Nat.le_of_ble_eq_true rfl) d_Clerk_carryOut_209) hS (fun H locs hP hS => ?_)
      refine lv_iconst (v := (0 : Int32)) hx hb d_Clerk_carryOut_212 (by decide) ?_
      obtain rfl := Option.some.inj hM
      exact hR _ ls H locs d_Clerk_carryOut_213 hP hS
    · replace hM := gi_f hc191 hM
      refine lv_bipush (v := (7 : Int32)) hx hb d_Clerk_carryOut_194 (by decide) ?_
      obtain rfl := Option.some.inj hM
      exact hR _ ls H locs d_Clerk_carryOut_196 hP hS
  replace hM := gi_f hc8_5 hM
  by_cases hc8_6 : (gSwt.getD (gIx (nI k1)) 0) = (7 : Int32)
  · replace hM := gi_t hc8_6 hM
    refine g_tabIn (v := 7) (tgt := 214) hx hb d_Clerk_carryOut_8 hc8_6 (by decide) (by decide) (off := 206) (by decide) (by decide) ?_
    refine lv_aload_n hx hb d_Clerk_carryOut_214 rfl (lv_at hl 0 rfl) ?_
    refine g_getR (b := 4) C hP gl_Clerk_21 rfl rfl rfl d_Clerk_carryOut_215 ?_
    refine lv_aload_n hx hb d_Clerk_carryOut_218 rfl (lv_at hl 0 rfl) ?_
    refine g_getI C hP gl_Clerk_39 rfl rfl d_Clerk_carryOut_219 ?_
    refine lv_aload_n hx hb d_Clerk_carryOut_222 rfl (lv_at hl 0 rfl) ?_
    refine g_getI C hP gl_Clerk_42 rfl rfl d_Clerk_carryOut_223 ?_
    obtain ⟨q226, hq226, hM⟩ := gb_some hM
    refine g_backI (g_runV (As := [.int (u.1 1 6), .int (u.1 1 7)]) C hP (c_Board_canNote C.2.2.2.2.2.2.2.2.1 hq226) gi_Board_canNote gm_Clerk_181 rfl rfl (by decide) (by decide) hl.1 rfl (Nat.le_of_ble_eq_true rfl) d_Clerk_carryOut_226) hS (fun H locs hP hS => ?_)
    refine lv_if_ne (tgt := 235) hx hb d_Clerk_carryOut_229 (by decide) (fun hc229 => ?_) (fun hc229 => ?_)
    · replace hM := gi_f hc229 hM
      refine lv_aload_n hx hb d_Clerk_carryOut_235 rfl (lv_at hl 0 rfl) ?_
      refine g_getR (b := 4) C hP gl_Clerk_21 rfl rfl rfl d_Clerk_carryOut_236 ?_
      refine lv_aload_n hx hb d_Clerk_carryOut_239 rfl (lv_at hl 0 rfl) ?_
      refine g_getI C hP gl_Clerk_39 rfl rfl d_Clerk_carryOut_240 ?_
      refine lv_aload_n hx hb d_Clerk_carryOut_243 rfl (lv_at hl 0 rfl) ?_
      refine g_getI C hP gl_Clerk_42 rfl rfl d_Clerk_carryOut_244 ?_
      obtain ⟨q247, hq247, hM⟩ := gb_some hM
      refine g_backV (g_runV (As := [.int (q226.2.1 1 6), .int (q226.2.1 1 7)]) C hP (c_Board_note C.2.2.2.2.2.2.2.2.1 hq247) gi_Board_note gm_Clerk_184 rfl rfl (by decide) (by decide) hl.1 rfl (Nat.le_of_ble_eq_true rfl) d_Clerk_carryOut_247) hS (fun H locs hP hS => ?_)
      refine lv_iconst (v := (0 : Int32)) hx hb d_Clerk_carryOut_250 (by decide) ?_
      obtain rfl := Option.some.inj hM
      exact hR _ ls H locs d_Clerk_carryOut_251 hP hS
    · replace hM := gi_t hc229 hM
      refine lv_bipush (v := (7 : Int32)) hx hb d_Clerk_carryOut_232 (by decide) ?_
      obtain rfl := Option.some.inj hM
      exact hR _ ls H locs d_Clerk_carryOut_234 hP hS
  replace hM := gi_f hc8_6 hM
  by_cases hc8_7 : (gSwt.getD (gIx (nI k1)) 0) = (8 : Int32)
  · replace hM := gi_t hc8_7 hM
    refine g_tabIn (v := 8) (tgt := 252) hx hb d_Clerk_carryOut_8 hc8_7 (by decide) (by decide) (off := 244) (by decide) (by decide) ?_
    refine lv_aload_n hx hb d_Clerk_carryOut_252 rfl (lv_at hl 0 rfl) ?_
    refine g_getR (b := 4) C hP gl_Clerk_21 rfl rfl rfl d_Clerk_carryOut_253 ?_
    refine g_getR (b := 23) C hP gl_Clerk_187 rfl rfl rfl d_Clerk_carryOut_256 ?_
    refine lv_iconst (v := (0 : Int32)) hx hb d_Clerk_carryOut_259 (by decide) ?_
    refine lv_aload_n hx hb d_Clerk_carryOut_260 rfl (lv_at hl 0 rfl) ?_
    refine g_getI C hP gl_Clerk_42 rfl rfl d_Clerk_carryOut_261 ?_
    obtain ⟨q264, hq264, hM⟩ := gb_some hM
    refine g_backV (g_runV (As := [.int (0 : Int32), .int (u.1 1 7)]) C hP (c_Grid_put C.2.2.2.2.2.2.2.2.1 hq264) gi_Grid_put gm_Clerk_173 rfl rfl (by decide) (by decide) hl.1 rfl (Nat.le_of_ble_eq_true rfl) d_Clerk_carryOut_264) hS (fun H locs hP hS => ?_)
    refine lv_iconst (v := (0 : Int32)) hx hb d_Clerk_carryOut_267 (by decide) ?_
    obtain rfl := Option.some.inj hM
    exact hR _ ls H locs d_Clerk_carryOut_268 hP hS
  replace hM := gi_f hc8_7 hM
  refine lv_tableOut (tgt := 269) hx hb d_Clerk_carryOut_8 (by have := gneI (k := 1) hc8_0 (by decide); have := gneI (k := 1) hc8_0 (by decide); have := gneI (k := 2) hc8_1 (by decide); have := gneI (k := 3) hc8_2 (by decide); have := gneI (k := 4) hc8_3 (by decide); have := gneI (k := 5) hc8_4 (by decide); have := gneI (k := 6) hc8_5 (by decide); have := gneI (k := 7) hc8_6 (by decide); have := gneI (k := 8) hc8_7 (by decide); omega) (by decide) ?_
  refine lv_iconst (v := (0 : Int32)) hx hb d_Clerk_carryOut_269 (by decide) ?_
  obtain rfl := Option.some.inj hM
  exact hR _ ls H locs d_Clerk_carryOut_270 hP hS
theorem c_Clerk_carryOut {l : Launch} {cy : Nat → ClassId} {D : va_G} {ρ : Nat → Nat} {A : Nat → Prop} {K : gKd} (hD : gD ρ A) {k1 : Nat} {u : gSt} {z : (Int32 × gSt)} (hM : M_Clerk_carryOut k1 u = some z) : gCtI3 l y_Clerk_carryOut prog_4_method_7_code 2 (some .int) 3 67 cy D ρ A K [.ref (ρ 1), .ref (K.2.2.1 k1)] u z.1 z.2 :=
  g_met3 (by decide) hD (Nat.le_of_ble_eq_true rfl) (fun p e s m below meth c ls X X3 hl hP => t_Clerk_carryOut X X3 hM (fun pc ls H locs hd hP hS => g_iret X hP hS hd) ls _ [] hl hP va_S.rf)
end
section
variable {p : Program} {l : Launch} {e : Env} {R : Room} {s : State} {m : MethodId} {args : Array Value} {below : List Frame} {meth : Method} {c : Code} {Q : State → Prop} {H0 : Heap} {cells slots : Nat} {cy : Nat → ClassId} {D : va_G} {ρ : Nat → Nat} {A : Nat → Prop} {K : gKd}
def y_Clerk_doLine : MethodName := ⟨"TermDesk$Clerk", "doLine", "()I"⟩
theorem gi_Clerk_doLine : gMi y_Clerk_doLine prog_4_method_3_code 3 (some .int) 0 1 := ⟨(gWs_at 430 (by decide +kernel) (by decide +kernel)), (gWs_at 429 (by decide +kernel) (by decide +kernel)), (gWs_at 2 (by decide +kernel) (by decide +kernel)), (gWs_at 118 (by decide +kernel) (by decide +kernel)), ⟨by decide +kernel, by decide +kernel, by decide +kernel⟩, _, _, rfl⟩
theorem gm_Clerk_56 : gMk "TermDesk$Clerk" 56 y_Clerk_doLine := Or.inl (gWs_at 427 (by decide +kernel) (by decide +kernel))
theorem d_Clerk_doLine_0 : decode prog_4_method_3_code 0 = .ok (.aload_n 0, 1) := by decide +kernel
theorem d_Clerk_doLine_1 : decode prog_4_method_3_code 1 = .ok (.getfield 12, 3) := by decide +kernel
theorem d_Clerk_doLine_4 : decode prog_4_method_3_code 4 = .ok (.invokevirtual 66, 3) := by decide +kernel
theorem d_Clerk_doLine_7 : decode prog_4_method_3_code 7 = .ok (.pop, 1) := by decide +kernel
theorem d_Clerk_doLine_8 : decode prog_4_method_3_code 8 = .ok (.aload_n 0, 1) := by decide +kernel
theorem d_Clerk_doLine_9 : decode prog_4_method_3_code 9 = .ok (.invokevirtual 70, 3) := by decide +kernel
theorem d_Clerk_doLine_12 : decode prog_4_method_3_code 12 = .ok (.astore_n 1, 1) := by decide +kernel
theorem d_Clerk_doLine_13 : decode prog_4_method_3_code 13 = .ok (.aload_n 1, 1) := by decide +kernel
theorem d_Clerk_doLine_14 : decode prog_4_method_3_code 14 = .ok (.ifnonnull 5, 3) := by decide +kernel
theorem d_Clerk_doLine_17 : decode prog_4_method_3_code 17 = .ok (.iconst 1, 1) := by decide +kernel
theorem d_Clerk_doLine_18 : decode prog_4_method_3_code 18 = .ok (.ireturn, 1) := by decide +kernel
theorem d_Clerk_doLine_19 : decode prog_4_method_3_code 19 = .ok (.aload_n 0, 1) := by decide +kernel
theorem d_Clerk_doLine_20 : decode prog_4_method_3_code 20 = .ok (.iconst (-1), 1) := by decide +kernel
theorem d_Clerk_doLine_21 : decode prog_4_method_3_code 21 = .ok (.putfield 39, 3) := by decide +kernel
theorem d_Clerk_doLine_24 : decode prog_4_method_3_code 24 = .ok (.aload_n 0, 1) := by decide +kernel
theorem d_Clerk_doLine_25 : decode prog_4_method_3_code 25 = .ok (.iconst (-1), 1) := by decide +kernel
theorem d_Clerk_doLine_26 : decode prog_4_method_3_code 26 = .ok (.putfield 42, 3) := by decide +kernel
theorem d_Clerk_doLine_29 : decode prog_4_method_3_code 29 = .ok (.aload_n 0, 1) := by decide +kernel
theorem d_Clerk_doLine_30 : decode prog_4_method_3_code 30 = .ok (.aload_n 1, 1) := by decide +kernel
theorem d_Clerk_doLine_31 : decode prog_4_method_3_code 31 = .ok (.getfield 74, 3) := by decide +kernel
theorem d_Clerk_doLine_34 : decode prog_4_method_3_code 34 = .ok (.invokevirtual 79, 3) := by decide +kernel
theorem d_Clerk_doLine_37 : decode prog_4_method_3_code 37 = .ok (.istore_n 2, 1) := by decide +kernel
theorem d_Clerk_doLine_38 : decode prog_4_method_3_code 38 = .ok (.iload_n 2, 1) := by decide +kernel
theorem d_Clerk_doLine_39 : decode prog_4_method_3_code 39 = .ok (.ifCond .ne 19, 3) := by decide +kernel
theorem d_Clerk_doLine_42 : decode prog_4_method_3_code 42 = .ok (.aload_n 1, 1) := by decide +kernel
theorem d_Clerk_doLine_43 : decode prog_4_method_3_code 43 = .ok (.getfield 83, 3) := by decide +kernel
theorem d_Clerk_doLine_46 : decode prog_4_method_3_code 46 = .ok (.ifCond .eq 12, 3) := by decide +kernel
theorem d_Clerk_doLine_49 : decode prog_4_method_3_code 49 = .ok (.aload_n 0, 1) := by decide +kernel
theorem d_Clerk_doLine_50 : decode prog_4_method_3_code 50 = .ok (.aload_n 1, 1) := by decide +kernel
theorem d_Clerk_doLine_51 : decode prog_4_method_3_code 51 = .ok (.getfield 83, 3) := by decide +kernel
theorem d_Clerk_doLine_54 : decode prog_4_method_3_code 54 = .ok (.invokevirtual 79, 3) := by decide +kernel
theorem d_Clerk_doLine_57 : decode prog_4_method_3_code 57 = .ok (.istore_n 2, 1) := by decide +kernel
theorem d_Clerk_doLine_58 : decode prog_4_method_3_code 58 = .ok (.iload_n 2, 1) := by decide +kernel
theorem d_Clerk_doLine_59 : decode prog_4_method_3_code 59 = .ok (.ifCond .ne 15, 3) := by decide +kernel
theorem d_Clerk_doLine_62 : decode prog_4_method_3_code 62 = .ok (.aload_n 0, 1) := by decide +kernel
theorem d_Clerk_doLine_63 : decode prog_4_method_3_code 63 = .ok (.getfield 12, 3) := by decide +kernel
theorem d_Clerk_doLine_66 : decode prog_4_method_3_code 66 = .ok (.invokevirtual 66, 3) := by decide +kernel
theorem d_Clerk_doLine_69 : decode prog_4_method_3_code 69 = .ok (.ifCond .eq 5, 3) := by decide +kernel
theorem d_Clerk_doLine_72 : decode prog_4_method_3_code 72 = .ok (.iconst 1, 1) := by decide +kernel
theorem d_Clerk_doLine_73 : decode prog_4_method_3_code 73 = .ok (.istore_n 2, 1) := by decide +kernel
theorem d_Clerk_doLine_74 : decode prog_4_method_3_code 74 = .ok (.iload_n 2, 1) := by decide +kernel
theorem d_Clerk_doLine_75 : decode prog_4_method_3_code 75 = .ok (.ifCond .ne 11, 3) := by decide +kernel
theorem d_Clerk_doLine_78 : decode prog_4_method_3_code 78 = .ok (.aload_n 0, 1) := by decide +kernel
theorem d_Clerk_doLine_79 : decode prog_4_method_3_code 79 = .ok (.aload_n 1, 1) := by decide +kernel
theorem d_Clerk_doLine_80 : decode prog_4_method_3_code 80 = .ok (.invokevirtual 86, 3) := by decide +kernel
theorem d_Clerk_doLine_83 : decode prog_4_method_3_code 83 = .ok (.goto 4, 3) := by decide +kernel
theorem d_Clerk_doLine_86 : decode prog_4_method_3_code 86 = .ok (.iload_n 2, 1) := by decide +kernel
theorem d_Clerk_doLine_87 : decode prog_4_method_3_code 87 = .ok (.ireturn, 1) := by decide +kernel
noncomputable def M_Clerk_doLine_b87 (s0 : Int32) (u : gSt) : Option ((Int32 × gSt)) :=
  some (s0, u)
set_option maxHeartbeats 4000000 in
set_option maxRecDepth 100000 in
theorem t_Clerk_doLine_b87 (C : gX "TermDesk$Clerk" prog_4_method_3_code 3 (some .int) 6 128 R cells slots cy D ρ A p s m args meth c) (X3 : gX3 A K s s.heap) {s0 : Int32} {u : gSt} {z : (Int32 × gSt)} (hM : M_Clerk_doLine_b87 s0 u = some z) (hR : gRtI p l e R s m args below meth c Q s.heap cells slots cy D ρ A prog_4_method_3_code z.1 z.2) : gAt p l e R s m args below meth c Q s.heap cells slots cy D ρ A 3 87 [] [.int s0] u := by
  intro ls H locs hl hP hS
  have hx := C.1
  have hb := C.2.1
  unfold M_Clerk_doLine_b87 at hM
  obtain rfl := Option.some.inj hM
  exact hR _ ls H locs d_Clerk_doLine_87 hP hS
noncomputable def M_Clerk_doLine_b74 (k1 : Nat) (x2 : Int32) (u : gSt) : Option ((Int32 × gSt)) :=
  if x2 = (0 : Int32) then
    ((M_Clerk_carryOut k1 u).bind fun q80 =>
    M_Clerk_doLine_b87 q80.1 q80.2)
  else
    (M_Clerk_doLine_b87 x2 u)
set_option maxHeartbeats 4000000 in
set_option maxRecDepth 100000 in
theorem t_Clerk_doLine_b74 (C : gX "TermDesk$Clerk" prog_4_method_3_code 3 (some .int) 6 128 R cells slots cy D ρ A p s m args meth c) (X3 : gX3 A K s s.heap) {k1 : Nat} {x2 : Int32} {u : gSt} {z : (Int32 × gSt)} (hM : M_Clerk_doLine_b74 k1 x2 u = some z) (hR : gRtI p l e R s m args below meth c Q s.heap cells slots cy D ρ A prog_4_method_3_code z.1 z.2) : gAt p l e R s m args below meth c Q s.heap cells slots cy D ρ A 3 74 [(0, .ref (ρ 1)), (1, .ref (K.2.2.1 k1)), (2, .int x2)] [] u := by
  intro ls H locs hl hP hS
  have hx := C.1
  have hb := C.2.1
  unfold M_Clerk_doLine_b74 at hM
  refine lv_iload_n hx hb d_Clerk_doLine_74 rfl (lv_at hl 2 rfl) ?_
  refine lv_if_ne (tgt := 86) hx hb d_Clerk_doLine_75 (by decide) (fun hc75 => ?_) (fun hc75 => ?_)
  · replace hM := gi_f hc75 hM
    refine lv_iload_n hx hb d_Clerk_doLine_86 rfl (lv_at hl 2 rfl) ?_
    exact t_Clerk_doLine_b87 C X3 hM hR ls H locs (lv_sub hl [] rfl) hP hS
  · replace hM := gi_t hc75 hM
    refine lv_aload_n hx hb d_Clerk_doLine_78 rfl (lv_at hl 0 rfl) ?_
    refine lv_aload_n hx hb d_Clerk_doLine_79 rfl (lv_at hl 1 rfl) ?_
    obtain ⟨q80, hq80, hM⟩ := gb_some hM
    refine g_backI (g_runV3 (As := [.ref (K.2.2.1 k1)]) C X3 hP hS (c_Clerk_carryOut C.2.2.2.2.2.2.2.2.1 hq80) gi_Clerk_carryOut gm_Clerk_86 rfl rfl (by decide) (by decide) hl.1 rfl (Nat.le_of_ble_eq_true rfl) d_Clerk_doLine_80) hS (fun H locs hP hS => ?_)
    refine lv_goto (tgt := 87) hx hb d_Clerk_doLine_83 (by decide) ?_
    exact t_Clerk_doLine_b87 C X3 hM hR ls H locs (lv_sub hl [] rfl) hP hS
noncomputable def M_Clerk_doLine_b58 (k1 : Nat) (x2 : Int32) (u : gSt) : Option ((Int32 × gSt)) :=
  if x2 = (0 : Int32) then
    ((M_Text_openWord u).bind fun q66 =>
    if q66.1 = (0 : Int32) then
      (M_Clerk_doLine_b74 k1 x2 q66.2)
    else
      (M_Clerk_doLine_b74 k1 (1 : Int32) q66.2))
  else
    (M_Clerk_doLine_b74 k1 x2 u)
set_option maxHeartbeats 4000000 in
set_option maxRecDepth 100000 in
theorem t_Clerk_doLine_b58 (C : gX "TermDesk$Clerk" prog_4_method_3_code 3 (some .int) 6 128 R cells slots cy D ρ A p s m args meth c) (X3 : gX3 A K s s.heap) {k1 : Nat} {x2 : Int32} {u : gSt} {z : (Int32 × gSt)} (hM : M_Clerk_doLine_b58 k1 x2 u = some z) (hR : gRtI p l e R s m args below meth c Q s.heap cells slots cy D ρ A prog_4_method_3_code z.1 z.2) : gAt p l e R s m args below meth c Q s.heap cells slots cy D ρ A 3 58 [(0, .ref (ρ 1)), (1, .ref (K.2.2.1 k1)), (2, .int x2)] [] u := by
  intro ls H locs hl hP hS
  have hx := C.1
  have hb := C.2.1
  unfold M_Clerk_doLine_b58 at hM
  refine lv_iload_n hx hb d_Clerk_doLine_58 rfl (lv_at hl 2 rfl) ?_
  refine lv_if_ne (tgt := 74) hx hb d_Clerk_doLine_59 (by decide) (fun hc59 => ?_) (fun hc59 => ?_)
  · replace hM := gi_f hc59 hM
    exact t_Clerk_doLine_b74 C X3 hM hR ls H locs (lv_sub hl [0, 1, 2] rfl) hP hS
  · replace hM := gi_t hc59 hM
    refine lv_aload_n hx hb d_Clerk_doLine_62 rfl (lv_at hl 0 rfl) ?_
    refine g_getR (b := 2) C hP gl_Clerk_12 rfl rfl rfl d_Clerk_doLine_63 ?_
    obtain ⟨q66, hq66, hM⟩ := gb_some hM
    refine g_backI (g_runV (As := []) C hP (c_Text_openWord C.2.2.2.2.2.2.2.2.1 hq66) gi_Text_openWord gm_Clerk_66 rfl rfl (by decide) (by decide) hl.1 rfl (Nat.le_of_ble_eq_true rfl) d_Clerk_doLine_66) hS (fun H locs hP hS => ?_)
    refine lv_if_eq (tgt := 74) hx hb d_Clerk_doLine_69 (by decide) (fun hc69 => ?_) (fun hc69 => ?_)
    · replace hM := gi_t hc69 hM
      exact t_Clerk_doLine_b74 C X3 hM hR ls H locs (lv_sub hl [0, 1, 2] rfl) hP hS
    · replace hM := gi_f hc69 hM
      refine lv_iconst (v := (1 : Int32)) hx hb d_Clerk_doLine_72 (by decide) ?_
      refine lv_istore_n (lv' := [(2, .int (1 : Int32)), (0, .ref (ρ 1)), (1, .ref (K.2.2.1 k1))]) hx hb d_Clerk_doLine_73 rfl hl (by decide) rfl (fun ls hl => ?_)
      exact t_Clerk_doLine_b74 C X3 hM hR ls H locs (lv_sub hl [1, 2, 0] rfl) hP hS
noncomputable def M_Clerk_doLine (u : gSt) : Option ((Int32 × gSt)) :=
  (M_Text_openWord u).bind fun q4 =>
  (M_Clerk_kindOfWord q4.2).bind fun q9 =>
  match q9.1 with
  | none => some ((1 : Int32), q9.2)
  | some k9 => (some (gsF q9.2 1 6 (-1 : Int32))).bind fun u21 =>
    (some (gsF u21 1 7 (-1 : Int32))).bind fun u26 =>
    gc (decide (k9 < 9)) <| (M_Clerk_readWord (gSec.getD k9 0) u26).bind fun q34 =>
    if q34.1 = (0 : Int32) then
      (gc (decide (k9 < 9)) <| if (gThi.getD k9 0) = (0 : Int32) then
        (M_Clerk_doLine_b58 k9 q34.1 q34.2)
      else
        (gc (decide (k9 < 9)) <| (M_Clerk_readWord (gThi.getD k9 0) q34.2).bind fun q54 =>
        M_Clerk_doLine_b58 k9 q54.1 q54.2))
    else
      (M_Clerk_doLine_b58 k9 q34.1 q34.2)
set_option maxHeartbeats 4000000 in
set_option maxRecDepth 100000 in
theorem t_Clerk_doLine (C : gX "TermDesk$Clerk" prog_4_method_3_code 3 (some .int) 6 128 R cells slots cy D ρ A p s m args meth c) (X3 : gX3 A K s s.heap) {u : gSt} {z : (Int32 × gSt)} (hM : M_Clerk_doLine u = some z) (hR : gRtI p l e R s m args below meth c Q s.heap cells slots cy D ρ A prog_4_method_3_code z.1 z.2) : gAt p l e R s m args below meth c Q s.heap cells slots cy D ρ A 3 0 [(0, .ref (ρ 1))] [] u := by
  intro ls H locs hl hP hS
  have hx := C.1
  have hb := C.2.1
  unfold M_Clerk_doLine at hM
  refine lv_aload_n hx hb d_Clerk_doLine_0 rfl (lv_at hl 0 rfl) ?_
  refine g_getR (b := 2) C hP gl_Clerk_12 rfl rfl rfl d_Clerk_doLine_1 ?_
  obtain ⟨q4, hq4, hM⟩ := gb_some hM
  refine g_backI (g_runV (As := []) C hP (c_Text_openWord C.2.2.2.2.2.2.2.2.1 hq4) gi_Text_openWord gm_Clerk_66 rfl rfl (by decide) (by decide) hl.1 rfl (Nat.le_of_ble_eq_true rfl) d_Clerk_doLine_4) hS (fun H locs hP hS => ?_)
  refine lv_pop hx hb d_Clerk_doLine_7 rfl ?_
  refine lv_aload_n hx hb d_Clerk_doLine_8 rfl (lv_at hl 0 rfl) ?_
  obtain ⟨q9, hq9, hM⟩ := gb_some hM
  refine g_backE (g_runV3 (As := []) C X3 hP hS (c_Clerk_kindOfWord C.2.2.2.2.2.2.2.2.1 hq9) gi_Clerk_kindOfWord gm_Clerk_70 rfl rfl (by decide) (by decide) hl.1 rfl (Nat.le_of_ble_eq_true rfl) d_Clerk_doLine_9) hS (fun H locs hP hS => ?_)
  cases hk9 : q9.1 with
  | none =>
    rw [hk9] at hM
    dsimp only at hM
    refine lv_astore_nN (lv' := [(1, .null), (0, .ref (ρ 1))]) hx hb d_Clerk_doLine_12 rfl hl (by decide) rfl (fun ls hl => ?_)
    refine lv_aload_nN hx hb d_Clerk_doLine_13 rfl (lv_at hl 0 rfl) ?_
    refine lv_ifnonnullN hx hb d_Clerk_doLine_14 ?_
    refine lv_iconst (v := (1 : Int32)) hx hb d_Clerk_doLine_17 (by decide) ?_
    obtain rfl := Option.some.inj hM
    exact hR _ ls H locs d_Clerk_doLine_18 hP hS
  | some k9 =>
    rw [hk9] at hM
    dsimp only at hM
    refine lv_astore_n (lv' := [(1, .ref (K.2.2.1 k9)), (0, .ref (ρ 1))]) hx hb d_Clerk_doLine_12 rfl hl (by decide) rfl (fun ls hl => ?_)
    refine lv_aload_n hx hb d_Clerk_doLine_13 rfl (lv_at hl 0 rfl) ?_
    refine lv_ifnonnull (tgt := 19) hx hb d_Clerk_doLine_14 (by decide) ?_
    refine lv_aload_n hx hb d_Clerk_doLine_19 rfl (lv_at hl 1 rfl) ?_
    refine lv_iconst (v := (-1 : Int32)) hx hb d_Clerk_doLine_20 (by decide) ?_
    obtain ⟨u21, e21, hM⟩ := gb_some hM
    refine g_putI C hP hS gl_Clerk_39 rfl rfl gq_1_6 d_Clerk_doLine_21 (fun H locs hP hS => ?_)
    rw [Option.some.inj e21] at hP
    refine lv_aload_n hx hb d_Clerk_doLine_24 rfl (lv_at hl 1 rfl) ?_
    refine lv_iconst (v := (-1 : Int32)) hx hb d_Clerk_doLine_25 (by decide) ?_
    obtain ⟨u26, e26, hM⟩ := gb_some hM
    refine g_putI C hP hS gl_Clerk_42 rfl rfl gq_1_7 d_Clerk_doLine_26 (fun H locs hP hS => ?_)
    rw [Option.some.inj e26] at hP
    refine lv_aload_n hx hb d_Clerk_doLine_29 rfl (lv_at hl 1 rfl) ?_
    refine lv_aload_n hx hb d_Clerk_doLine_30 rfl (lv_at hl 0 rfl) ?_
    obtain ⟨hk31, hM⟩ := gc_some hM
    refine g_getK (host := "TermDesk") C hS (X3.2.2.1 _ (of_decide_eq_true hk31)).2.2.1 (gNs_at 1422 (by decide +kernel) (by decide +kernel)) d_Clerk_doLine_31 ?_
    obtain ⟨q34, hq34, hM⟩ := gb_some hM
    refine g_backI (g_runV (As := [.int (gSec.getD k9 0)]) C hP (c_Clerk_readWord C.2.2.2.2.2.2.2.2.1 hq34) gi_Clerk_readWord gm_Clerk_79 rfl rfl (by decide) (by decide) hl.1 rfl (Nat.le_of_ble_eq_true rfl) d_Clerk_doLine_34) hS (fun H locs hP hS => ?_)
    refine lv_istore_n (lv' := [(2, .int q34.1), (1, .ref (K.2.2.1 k9)), (0, .ref (ρ 1))]) hx hb d_Clerk_doLine_37 rfl hl (by decide) rfl (fun ls hl => ?_)
    refine lv_iload_n hx hb d_Clerk_doLine_38 rfl (lv_at hl 0 rfl) ?_
    refine lv_if_ne (tgt := 58) hx hb d_Clerk_doLine_39 (by decide) (fun hc39 => ?_) (fun hc39 => ?_)
    · replace hM := gi_f hc39 hM
      exact t_Clerk_doLine_b58 C X3 hM hR ls H locs (lv_sub hl [2, 1, 0] rfl) hP hS
    · replace hM := gi_t hc39 hM
      refine lv_aload_n hx hb d_Clerk_doLine_42 rfl (lv_at hl 1 rfl) ?_
      obtain ⟨hk43, hM⟩ := gc_some hM
      refine g_getK (host := "TermDesk") C hS (X3.2.2.1 _ (of_decide_eq_true hk43)).2.2.2.1 (gNs_at 1423 (by decide +kernel) (by decide +kernel)) d_Clerk_doLine_43 ?_
      refine lv_if_eq (tgt := 58) hx hb d_Clerk_doLine_46 (by decide) (fun hc46 => ?_) (fun hc46 => ?_)
      · replace hM := gi_t hc46 hM
        exact t_Clerk_doLine_b58 C X3 hM hR ls H locs (lv_sub hl [2, 1, 0] rfl) hP hS
      · replace hM := gi_f hc46 hM
        refine lv_aload_n hx hb d_Clerk_doLine_49 rfl (lv_at hl 2 rfl) ?_
        refine lv_aload_n hx hb d_Clerk_doLine_50 rfl (lv_at hl 1 rfl) ?_
        obtain ⟨hk51, hM⟩ := gc_some hM
        refine g_getK (host := "TermDesk") C hS (X3.2.2.1 _ (of_decide_eq_true hk51)).2.2.2.1 (gNs_at 1423 (by decide +kernel) (by decide +kernel)) d_Clerk_doLine_51 ?_
        obtain ⟨q54, hq54, hM⟩ := gb_some hM
        refine g_backI (g_runV (As := [.int (gThi.getD k9 0)]) C hP (c_Clerk_readWord C.2.2.2.2.2.2.2.2.1 hq54) gi_Clerk_readWord gm_Clerk_79 rfl rfl (by decide) (by decide) hl.1 rfl (Nat.le_of_ble_eq_true rfl) d_Clerk_doLine_54) hS (fun H locs hP hS => ?_)
        refine lv_istore_n (lv' := [(2, .int q54.1), (1, .ref (K.2.2.1 k9)), (0, .ref (ρ 1))]) hx hb d_Clerk_doLine_57 rfl hl (by decide) rfl (fun ls hl => ?_)
        exact t_Clerk_doLine_b58 C X3 hM hR ls H locs (lv_sub hl [2, 1, 0] rfl) hP hS
theorem c_Clerk_doLine {l : Launch} {cy : Nat → ClassId} {D : va_G} {ρ : Nat → Nat} {A : Nat → Prop} {K : gKd} (hD : gD ρ A) {u : gSt} {z : (Int32 × gSt)} (hM : M_Clerk_doLine u = some z) : gCtI3 l y_Clerk_doLine prog_4_method_3_code 3 (some .int) 6 128 cy D ρ A K [.ref (ρ 1)] u z.1 z.2 :=
  g_met3 (by decide) hD (Nat.le_of_ble_eq_true rfl) (fun p e s m below meth c ls X X3 hl hP => t_Clerk_doLine X X3 hM (fun pc ls H locs hd hP hS => g_iret X hP hS hd) ls _ [] hl hP va_S.rf)
end
section
variable {p : Program} {l : Launch} {e : Env} {R : Room} {s : State} {m : MethodId} {args : Array Value} {below : List Frame} {meth : Method} {c : Code} {Q : State → Prop} {H0 : Heap} {cells slots : Nat} {cy : Nat → ClassId} {D : va_G} {ρ : Nat → Nat} {A : Nat → Prop} {K : gKd}
def y_Clerk_doLines : MethodName := ⟨"TermDesk$Clerk", "doLines", "()I"⟩
theorem gi_Clerk_doLines : gMi y_Clerk_doLines prog_4_method_2_code 3 (some .int) 0 1 := ⟨(gWs_at 421 (by decide +kernel) (by decide +kernel)), (gWs_at 420 (by decide +kernel) (by decide +kernel)), (gWs_at 0 (by decide +kernel) (by decide +kernel)), (gWs_at 118 (by decide +kernel) (by decide +kernel)), ⟨by decide +kernel, by decide +kernel, by decide +kernel⟩, _, _, rfl⟩
theorem gm_Desk_73 : gMk "TermDesk" 73 y_Clerk_doLines := Or.inr ⟨"TermDesk", gNs_at 418 (by decide +kernel) (by decide +kernel)⟩
theorem d_Clerk_doLines_0 : decode prog_4_method_2_code 0 = .ok (.aload_n 0, 1) := by decide +kernel
theorem d_Clerk_doLines_1 : decode prog_4_method_2_code 1 = .ok (.iconst 0, 1) := by decide +kernel
theorem d_Clerk_doLines_2 : decode prog_4_method_2_code 2 = .ok (.putfield 25, 3) := by decide +kernel
theorem d_Clerk_doLines_5 : decode prog_4_method_2_code 5 = .ok (.aload_n 0, 1) := by decide +kernel
theorem d_Clerk_doLines_6 : decode prog_4_method_2_code 6 = .ok (.iconst (-1), 1) := by decide +kernel
theorem d_Clerk_doLines_7 : decode prog_4_method_2_code 7 = .ok (.putfield 29, 3) := by decide +kernel
theorem d_Clerk_doLines_10 : decode prog_4_method_2_code 10 = .ok (.iconst 0, 1) := by decide +kernel
theorem d_Clerk_doLines_11 : decode prog_4_method_2_code 11 = .ok (.istore_n 1, 1) := by decide +kernel
theorem d_Clerk_doLines_12 : decode prog_4_method_2_code 12 = .ok (.iconst 0, 1) := by decide +kernel
theorem d_Clerk_doLines_13 : decode prog_4_method_2_code 13 = .ok (.istore_n 2, 1) := by decide +kernel
theorem d_Clerk_doLines_14 : decode prog_4_method_2_code 14 = .ok (.iload_n 2, 1) := by decide +kernel
theorem d_Clerk_doLines_15 : decode prog_4_method_2_code 15 = .ok (.aload_n 0, 1) := by decide +kernel
theorem d_Clerk_doLines_16 : decode prog_4_method_2_code 16 = .ok (.getfield 12, 3) := by decide +kernel
theorem d_Clerk_doLines_19 : decode prog_4_method_2_code 19 = .ok (.getfield 45, 3) := by decide +kernel
theorem d_Clerk_doLines_22 : decode prog_4_method_2_code 22 = .ok (.if_icmp .ge 95, 3) := by decide +kernel
theorem d_Clerk_doLines_25 : decode prog_4_method_2_code 25 = .ok (.iload_n 1, 1) := by decide +kernel
theorem d_Clerk_doLines_26 : decode prog_4_method_2_code 26 = .ok (.ldc 48, 2) := by decide +kernel
theorem d_Clerk_doLines_28 : decode prog_4_method_2_code 28 = .ok (.if_icmp .ge 89, 3) := by decide +kernel
theorem d_Clerk_doLines_31 : decode prog_4_method_2_code 31 = .ok (.aload_n 0, 1) := by decide +kernel
theorem d_Clerk_doLines_32 : decode prog_4_method_2_code 32 = .ok (.getfield 12, 3) := by decide +kernel
theorem d_Clerk_doLines_35 : decode prog_4_method_2_code 35 = .ok (.iload_n 2, 1) := by decide +kernel
theorem d_Clerk_doLines_36 : decode prog_4_method_2_code 36 = .ok (.invokevirtual 49, 3) := by decide +kernel
theorem d_Clerk_doLines_39 : decode prog_4_method_2_code 39 = .ok (.aload_n 0, 1) := by decide +kernel
theorem d_Clerk_doLines_40 : decode prog_4_method_2_code 40 = .ok (.aload_n 0, 1) := by decide +kernel
theorem d_Clerk_doLines_41 : decode prog_4_method_2_code 41 = .ok (.getfield 12, 3) := by decide +kernel
theorem d_Clerk_doLines_44 : decode prog_4_method_2_code 44 = .ok (.getfield 53, 3) := by decide +kernel
theorem d_Clerk_doLines_47 : decode prog_4_method_2_code 47 = .ok (.iload_n 2, 1) := by decide +kernel
theorem d_Clerk_doLines_48 : decode prog_4_method_2_code 48 = .ok (.if_icmp .le 10, 3) := by decide +kernel
theorem d_Clerk_doLines_51 : decode prog_4_method_2_code 51 = .ok (.aload_n 0, 1) := by decide +kernel
theorem d_Clerk_doLines_52 : decode prog_4_method_2_code 52 = .ok (.invokevirtual 56, 3) := by decide +kernel
theorem d_Clerk_doLines_55 : decode prog_4_method_2_code 55 = .ok (.goto 4, 3) := by decide +kernel
theorem d_Clerk_doLines_58 : decode prog_4_method_2_code 58 = .ok (.iconst 0, 1) := by decide +kernel
theorem d_Clerk_doLines_59 : decode prog_4_method_2_code 59 = .ok (.putfield 25, 3) := by decide +kernel
theorem d_Clerk_doLines_62 : decode prog_4_method_2_code 62 = .ok (.aload_n 0, 1) := by decide +kernel
theorem d_Clerk_doLines_63 : decode prog_4_method_2_code 63 = .ok (.getfield 25, 3) := by decide +kernel
theorem d_Clerk_doLines_66 : decode prog_4_method_2_code 66 = .ok (.ifCond .eq 35, 3) := by decide +kernel
theorem d_Clerk_doLines_69 : decode prog_4_method_2_code 69 = .ok (.aload_n 0, 1) := by decide +kernel
theorem d_Clerk_doLines_70 : decode prog_4_method_2_code 70 = .ok (.aload_n 0, 1) := by decide +kernel
theorem d_Clerk_doLines_71 : decode prog_4_method_2_code 71 = .ok (.getfield 25, 3) := by decide +kernel
theorem d_Clerk_doLines_74 : decode prog_4_method_2_code 74 = .ok (.bipush 7, 2) := by decide +kernel
theorem d_Clerk_doLines_76 : decode prog_4_method_2_code 76 = .ok (.if_icmp .ne 13, 3) := by decide +kernel
theorem d_Clerk_doLines_79 : decode prog_4_method_2_code 79 = .ok (.aload_n 0, 1) := by decide +kernel
theorem d_Clerk_doLines_80 : decode prog_4_method_2_code 80 = .ok (.getfield 12, 3) := by decide +kernel
theorem d_Clerk_doLines_83 : decode prog_4_method_2_code 83 = .ok (.getfield 60, 3) := by decide +kernel
theorem d_Clerk_doLines_86 : decode prog_4_method_2_code 86 = .ok (.goto 10, 3) := by decide +kernel
theorem d_Clerk_doLines_89 : decode prog_4_method_2_code 89 = .ok (.aload_n 0, 1) := by decide +kernel
theorem d_Clerk_doLines_90 : decode prog_4_method_2_code 90 = .ok (.getfield 12, 3) := by decide +kernel
theorem d_Clerk_doLines_93 : decode prog_4_method_2_code 93 = .ok (.getfield 63, 3) := by decide +kernel
theorem d_Clerk_doLines_96 : decode prog_4_method_2_code 96 = .ok (.putfield 29, 3) := by decide +kernel
theorem d_Clerk_doLines_99 : decode prog_4_method_2_code 99 = .ok (.iload_n 1, 1) := by decide +kernel
theorem d_Clerk_doLines_100 : decode prog_4_method_2_code 100 = .ok (.ireturn, 1) := by decide +kernel
theorem d_Clerk_doLines_101 : decode prog_4_method_2_code 101 = .ok (.iinc 1 1, 3) := by decide +kernel
theorem d_Clerk_doLines_104 : decode prog_4_method_2_code 104 = .ok (.aload_n 0, 1) := by decide +kernel
theorem d_Clerk_doLines_105 : decode prog_4_method_2_code 105 = .ok (.getfield 12, 3) := by decide +kernel
theorem d_Clerk_doLines_108 : decode prog_4_method_2_code 108 = .ok (.getfield 53, 3) := by decide +kernel
theorem d_Clerk_doLines_111 : decode prog_4_method_2_code 111 = .ok (.iconst 1, 1) := by decide +kernel
theorem d_Clerk_doLines_112 : decode prog_4_method_2_code 112 = .ok (.iadd, 1) := by decide +kernel
theorem d_Clerk_doLines_113 : decode prog_4_method_2_code 113 = .ok (.istore_n 2, 1) := by decide +kernel
theorem d_Clerk_doLines_114 : decode prog_4_method_2_code 114 = .ok (.goto (-100), 3) := by decide +kernel
theorem d_Clerk_doLines_117 : decode prog_4_method_2_code 117 = .ok (.iload_n 1, 1) := by decide +kernel
theorem d_Clerk_doLines_118 : decode prog_4_method_2_code 118 = .ok (.ireturn, 1) := by decide +kernel
noncomputable def M_Clerk_doLines_b59 (x1 : Int32) (s0 : Int32) (u : gSt) : Option ((Int32 × Int32 × gSt) ⊕ ((Int32 × gSt) ⊕ (Int32 × gSt))) :=
  (some (gsF u 1 2 s0)).bind fun u59 =>
  if (u59.1 1 2) = (0 : Int32) then
    (some (.inl (x1 + (1 : Int32), (u59.1 2 3) + (1 : Int32), u59)))
  else
    (some (.inr (.inr (x1, u59))))
set_option maxHeartbeats 4000000 in
set_option maxRecDepth 100000 in
theorem t_Clerk_doLines_b59 (C : gX "TermDesk$Clerk" prog_4_method_2_code 3 (some .int) 7 150 R cells slots cy D ρ A p s m args meth c) (X3 : gX3 A K s s.heap) {x1 : Int32} {s0 : Int32} {u : gSt} {z : (Int32 × Int32 × gSt) ⊕ ((Int32 × gSt) ⊕ (Int32 × gSt))} (hM : M_Clerk_doLines_b59 x1 s0 u = some z) (hN : ∀ x1' x2' u', z = .inl (x1', x2', u') → gAt p l e R s m args below meth c Q s.heap cells slots cy D ρ A 3 14 [(0, .ref (ρ 1)), (1, .int (x1')), (2, .int (x2'))] [] (u')) (hE0 : ∀ x1' u', z = .inr (.inl (x1', u')) → gAt p l e R s m args below meth c Q s.heap cells slots cy D ρ A 3 117 [(1, .int (x1'))] [] (u')) (hE1 : ∀ x1' u', z = .inr (.inr (x1', u')) → gAt p l e R s m args below meth c Q s.heap cells slots cy D ρ A 3 69 [(0, .ref (ρ 1)), (1, .int (x1'))] [] (u')) : gAt p l e R s m args below meth c Q s.heap cells slots cy D ρ A 3 59 [(0, .ref (ρ 1)), (1, .int x1)] [.int s0, .ref (ρ 1)] u := by
  intro ls H locs hl hP hS
  have hx := C.1
  have hb := C.2.1
  unfold M_Clerk_doLines_b59 at hM
  obtain ⟨u59, e59, hM⟩ := gb_some hM
  refine g_putI C hP hS gl_Clerk_25 rfl rfl gq_1_2 d_Clerk_doLines_59 (fun H locs hP hS => ?_)
  rw [Option.some.inj e59] at hP
  refine lv_aload_n hx hb d_Clerk_doLines_62 rfl (lv_at hl 0 rfl) ?_
  refine g_getI C hP gl_Clerk_25 rfl rfl d_Clerk_doLines_63 ?_
  refine lv_if_eq (tgt := 101) hx hb d_Clerk_doLines_66 (by decide) (fun hc66 => ?_) (fun hc66 => ?_)
  · replace hM := gi_t hc66 hM
    refine lv_iinc (k := 1) (v := x1 + (1 : Int32)) (lv' := [(1, .int (x1 + (1 : Int32))), (0, .ref (ρ 1))]) hx hb d_Clerk_doLines_101 hl rfl (congrArg (fun z => x1 + z) (by decide)) (by decide) rfl (fun ls hl => ?_)
    refine lv_aload_n hx hb d_Clerk_doLines_104 rfl (lv_at hl 1 rfl) ?_
    refine g_getR (b := 2) C hP gl_Clerk_12 rfl rfl rfl d_Clerk_doLines_105 ?_
    refine g_getI C hP gl_Clerk_53 rfl rfl d_Clerk_doLines_108 ?_
    refine lv_iconst (v := (1 : Int32)) hx hb d_Clerk_doLines_111 (by decide) ?_
    refine lv_iadd hx hb d_Clerk_doLines_112 ?_
    refine lv_istore_n (lv' := [(2, .int ((u59.1 2 3) + (1 : Int32))), (1, .int (x1 + (1 : Int32))), (0, .ref (ρ 1))]) hx hb d_Clerk_doLines_113 rfl hl (by decide) rfl (fun ls hl => ?_)
    refine lv_goto (tgt := 14) hx hb d_Clerk_doLines_114 (by decide) ?_
    exact hN _ _ _ (Option.some.inj hM).symm ls H locs (lv_sub hl [2, 1, 0] rfl) hP hS
  · replace hM := gi_f hc66 hM
    exact hE1 _ _ (Option.some.inj hM).symm ls H locs (lv_sub hl [0, 1] rfl) hP hS
noncomputable def M_Clerk_doLines_b14 (x1 : Int32) (x2 : Int32) (u : gSt) : Option ((Int32 × Int32 × gSt) ⊕ ((Int32 × gSt) ⊕ (Int32 × gSt))) :=
  if (u.1 2 1) ≤ x2 then
    (some (.inr (.inl (x1, u))))
  else
    (if (40000 : Int32) ≤ x1 then
      (some (.inr (.inl (x1, u))))
    else
      ((M_Text_openLine x2 u).bind fun q36 =>
      if (q36.1 2 3) ≤ x2 then
        (M_Clerk_doLines_b59 x1 (0 : Int32) q36)
      else
        ((M_Clerk_doLine q36).bind fun q52 =>
        M_Clerk_doLines_b59 x1 q52.1 q52.2)))
set_option maxHeartbeats 4000000 in
set_option maxRecDepth 100000 in
theorem t_Clerk_doLines_b14 (C : gX "TermDesk$Clerk" prog_4_method_2_code 3 (some .int) 7 150 R cells slots cy D ρ A p s m args meth c) (X3 : gX3 A K s s.heap) {x1 : Int32} {x2 : Int32} {u : gSt} {z : (Int32 × Int32 × gSt) ⊕ ((Int32 × gSt) ⊕ (Int32 × gSt))} (hM : M_Clerk_doLines_b14 x1 x2 u = some z) (hN : ∀ x1' x2' u', z = .inl (x1', x2', u') → gAt p l e R s m args below meth c Q s.heap cells slots cy D ρ A 3 14 [(0, .ref (ρ 1)), (1, .int (x1')), (2, .int (x2'))] [] (u')) (hE0 : ∀ x1' u', z = .inr (.inl (x1', u')) → gAt p l e R s m args below meth c Q s.heap cells slots cy D ρ A 3 117 [(1, .int (x1'))] [] (u')) (hE1 : ∀ x1' u', z = .inr (.inr (x1', u')) → gAt p l e R s m args below meth c Q s.heap cells slots cy D ρ A 3 69 [(0, .ref (ρ 1)), (1, .int (x1'))] [] (u')) : gAt p l e R s m args below meth c Q s.heap cells slots cy D ρ A 3 14 [(0, .ref (ρ 1)), (1, .int x1), (2, .int x2)] [] u := by
  intro ls H locs hl hP hS
  have hx := C.1
  have hb := C.2.1
  unfold M_Clerk_doLines_b14 at hM
  refine lv_iload_n hx hb d_Clerk_doLines_14 rfl (lv_at hl 2 rfl) ?_
  refine lv_aload_n hx hb d_Clerk_doLines_15 rfl (lv_at hl 0 rfl) ?_
  refine g_getR (b := 2) C hP gl_Clerk_12 rfl rfl rfl d_Clerk_doLines_16 ?_
  refine g_getI C hP gl_Clerk_45 rfl rfl d_Clerk_doLines_19 ?_
  refine lv_icmp_ge (tgt := 117) hx hb d_Clerk_doLines_22 (by decide) (fun hc22 => ?_) (fun hc22 => ?_)
  · replace hM := gi_t hc22 hM
    exact hE0 _ _ (Option.some.inj hM).symm ls H locs (lv_sub hl [1] rfl) hP hS
  · replace hM := gi_f hc22 hM
    refine lv_iload_n hx hb d_Clerk_doLines_25 rfl (lv_at hl 1 rfl) ?_
    refine lv_ldc (v := (40000 : Int32)) hx hb C.2.2.2.2.1 (C.2.2.2.2.2.1 _ (gWs_at 422 (by decide +kernel) (by decide +kernel))) d_Clerk_doLines_26 ?_
    refine lv_icmp_ge (tgt := 117) hx hb d_Clerk_doLines_28 (by decide) (fun hc28 => ?_) (fun hc28 => ?_)
    · replace hM := gi_t hc28 hM
      exact hE0 _ _ (Option.some.inj hM).symm ls H locs (lv_sub hl [1] rfl) hP hS
    · replace hM := gi_f hc28 hM
      refine lv_aload_n hx hb d_Clerk_doLines_31 rfl (lv_at hl 0 rfl) ?_
      refine g_getR (b := 2) C hP gl_Clerk_12 rfl rfl rfl d_Clerk_doLines_32 ?_
      refine lv_iload_n hx hb d_Clerk_doLines_35 rfl (lv_at hl 2 rfl) ?_
      obtain ⟨q36, hq36, hM⟩ := gb_some hM
      refine g_backV (g_runV (As := [.int x2]) C hP (c_Text_openLine C.2.2.2.2.2.2.2.2.1 hq36) gi_Text_openLine gm_Clerk_49 rfl rfl (by decide) (by decide) hl.1 rfl (Nat.le_of_ble_eq_true rfl) d_Clerk_doLines_36) hS (fun H locs hP hS => ?_)
      refine lv_aload_n hx hb d_Clerk_doLines_39 rfl (lv_at hl 0 rfl) ?_
      refine lv_aload_n hx hb d_Clerk_doLines_40 rfl (lv_at hl 0 rfl) ?_
      refine g_getR (b := 2) C hP gl_Clerk_12 rfl rfl rfl d_Clerk_doLines_41 ?_
      refine g_getI C hP gl_Clerk_53 rfl rfl d_Clerk_doLines_44 ?_
      refine lv_iload_n hx hb d_Clerk_doLines_47 rfl (lv_at hl 2 rfl) ?_
      refine lv_icmp_le (tgt := 58) hx hb d_Clerk_doLines_48 (by decide) (fun hc48 => ?_) (fun hc48 => ?_)
      · replace hM := gi_t hc48 hM
        refine lv_iconst (v := (0 : Int32)) hx hb d_Clerk_doLines_58 (by decide) ?_
        exact t_Clerk_doLines_b59 C X3 hM hN hE0 hE1 ls H locs (lv_sub hl [0, 1] rfl) hP hS
      · replace hM := gi_f hc48 hM
        refine lv_aload_n hx hb d_Clerk_doLines_51 rfl (lv_at hl 0 rfl) ?_
        obtain ⟨q52, hq52, hM⟩ := gb_some hM
        refine g_backI (g_runV3 (As := []) C X3 hP hS (c_Clerk_doLine C.2.2.2.2.2.2.2.2.1 hq52) gi_Clerk_doLine gm_Clerk_56 rfl rfl (by decide) (by decide) hl.1 rfl (Nat.le_of_ble_eq_true rfl) d_Clerk_doLines_52) hS (fun H locs hP hS => ?_)
        refine lv_goto (tgt := 59) hx hb d_Clerk_doLines_55 (by decide) ?_
        exact t_Clerk_doLines_b59 C X3 hM hN hE0 hE1 ls H locs (lv_sub hl [0, 1] rfl) hP hS
noncomputable def M_Clerk_doLines_L14 : (Int32 × Int32 × gSt) → Option ((Int32 × Int32 × gSt) ⊕ ((Int32 × gSt) ⊕ (Int32 × gSt))) := fun x => M_Clerk_doLines_b14 x.1 x.2.1 x.2.2
theorem t_Clerk_doLines_L14 (C : gX "TermDesk$Clerk" prog_4_method_2_code 3 (some .int) 7 150 R cells slots cy D ρ A p s m args meth c) (X3 : gX3 A K s s.heap) {x1 : Int32} {x2 : Int32} {u : gSt} {yy : (Int32 × gSt) ⊕ (Int32 × gSt)} (hL : gLp M_Clerk_doLines_L14 (x1, x2, u) = some yy) (hE0 : (∀ y', yy = (.inl y') → gAt p l e R s m args below meth c Q s.heap cells slots cy D ρ A 3 117 [(1, .int (y'.1))] [] (y'.2))) (hE1 : (∀ y', yy = (.inr y') → gAt p l e R s m args below meth c Q s.heap cells slots cy D ρ A 3 69 [(0, .ref (ρ 1)), (1, .int (y'.1))] [] (y'.2))) : gAt p l e R s m args below meth c Q s.heap cells slots cy D ρ A 3 14 [(0, .ref (ρ 1)), (1, .int x1), (2, .int x2)] [] u :=
  g_loop (f := M_Clerk_doLines_L14) (P := fun x => gAt p l e R s m args below meth c Q s.heap cells slots cy D ρ A 3 14 [(0, .ref (ρ 1)), (1, .int x.1), (2, .int x.2.1)] [] x.2.2) (E := fun yy => (∀ y', yy = (.inl y') → gAt p l e R s m args below meth c Q s.heap cells slots cy D ρ A 3 117 [(1, .int (y'.1))] [] (y'.2)) ∧ (∀ y', yy = (.inr y') → gAt p l e R s m args below meth c Q s.heap cells slots cy D ρ A 3 69 [(0, .ref (ρ 1)), (1, .int (y'.1))] [] (y'.2))) (fun x z hf hN hE => t_Clerk_doLines_b14 C X3 hf (fun x1' x2' u' h => hN (x1', x2', u') h) (fun x1' u' h => (hE _ h).1 (x1', u') rfl) (fun x1' u' h => (hE _ h).2 (x1', u') rfl)) hL ⟨hE0, hE1⟩
noncomputable def M_Clerk_doLines_b96 (x1 : Int32) (s0 : Int32) (u : gSt) : Option ((Int32 × gSt)) :=
  (some (gsF u 1 3 s0)).bind fun u96 =>
  some (x1, u96)
set_option maxHeartbeats 4000000 in
set_option maxRecDepth 100000 in
theorem t_Clerk_doLines_b96 (C : gX "TermDesk$Clerk" prog_4_method_2_code 3 (some .int) 7 150 R cells slots cy D ρ A p s m args meth c) (X3 : gX3 A K s s.heap) {x1 : Int32} {s0 : Int32} {u : gSt} {z : (Int32 × gSt)} (hM : M_Clerk_doLines_b96 x1 s0 u = some z) (hR : gRtI p l e R s m args below meth c Q s.heap cells slots cy D ρ A prog_4_method_2_code z.1 z.2) : gAt p l e R s m args below meth c Q s.heap cells slots cy D ρ A 3 96 [(1, .int x1)] [.int s0, .ref (ρ 1)] u := by
  intro ls H locs hl hP hS
  have hx := C.1
  have hb := C.2.1
  unfold M_Clerk_doLines_b96 at hM
  obtain ⟨u96, e96, hM⟩ := gb_some hM
  refine g_putI C hP hS gl_Clerk_29 rfl rfl gq_1_3 d_Clerk_doLines_96 (fun H locs hP hS => ?_)
  rw [Option.some.inj e96] at hP
  refine lv_iload_n hx hb d_Clerk_doLines_99 rfl (lv_at hl 0 rfl) ?_
  obtain rfl := Option.some.inj hM
  exact hR _ ls H locs d_Clerk_doLines_100 hP hS
noncomputable def M_Clerk_doLines (u : gSt) : Option ((Int32 × gSt)) :=
  (some (gsF u 1 2 (0 : Int32))).bind fun u2 =>
  (some (gsF u2 1 3 (-1 : Int32))).bind fun u7 =>
  (gLp M_Clerk_doLines_L14 ((0 : Int32), (0 : Int32), u7)).bind fun y14 =>
  (Sum.elim (fun y14_0 => some (y14_0.1, y14_0.2)) (fun y14_1 => if (y14_1.2.1 1 2) = (7 : Int32) then
    (M_Clerk_doLines_b96 y14_1.1 (y14_1.2.1 2 2) y14_1.2)
  else
    (M_Clerk_doLines_b96 y14_1.1 (y14_1.2.1 2 4) y14_1.2))) y14
set_option maxHeartbeats 4000000 in
set_option maxRecDepth 100000 in
theorem t_Clerk_doLines (C : gX "TermDesk$Clerk" prog_4_method_2_code 3 (some .int) 7 150 R cells slots cy D ρ A p s m args meth c) (X3 : gX3 A K s s.heap) {u : gSt} {z : (Int32 × gSt)} (hM : M_Clerk_doLines u = some z) (hR : gRtI p l e R s m args below meth c Q s.heap cells slots cy D ρ A prog_4_method_2_code z.1 z.2) : gAt p l e R s m args below meth c Q s.heap cells slots cy D ρ A 3 0 [(0, .ref (ρ 1))] [] u := by
  intro ls H locs hl hP hS
  have hx := C.1
  have hb := C.2.1
  unfold M_Clerk_doLines at hM
  refine lv_aload_n hx hb d_Clerk_doLines_0 rfl (lv_at hl 0 rfl) ?_
  refine lv_iconst (v := (0 : Int32)) hx hb d_Clerk_doLines_1 (by decide) ?_
  obtain ⟨u2, e2, hM⟩ := gb_some hM
  refine g_putI C hP hS gl_Clerk_25 rfl rfl gq_1_2 d_Clerk_doLines_2 (fun H locs hP hS => ?_)
  rw [Option.some.inj e2] at hP
  refine lv_aload_n hx hb d_Clerk_doLines_5 rfl (lv_at hl 0 rfl) ?_
  refine lv_iconst (v := (-1 : Int32)) hx hb d_Clerk_doLines_6 (by decide) ?_
  obtain ⟨u7, e7, hM⟩ := gb_some hM
  refine g_putI C hP hS gl_Clerk_29 rfl rfl gq_1_3 d_Clerk_doLines_7 (fun H locs hP hS => ?_)
  rw [Option.some.inj e7] at hP
  refine lv_iconst (v := (0 : Int32)) hx hb d_Clerk_doLines_10 (by decide) ?_
  refine lv_istore_n (lv' := [(1, .int (0 : Int32)), (0, .ref (ρ 1))]) hx hb d_Clerk_doLines_11 rfl hl (by decide) rfl (fun ls hl => ?_)
  refine lv_iconst (v := (0 : Int32)) hx hb d_Clerk_doLines_12 (by decide) ?_
  refine lv_istore_n (lv' := [(2, .int (0 : Int32)), (1, .int (0 : Int32)), (0, .ref (ρ 1))]) hx hb d_Clerk_doLines_13 rfl hl (by decide) rfl (fun ls hl => ?_)
  obtain ⟨y14, hL14, hM⟩ := gb_some hM
  refine t_Clerk_doLines_L14 C X3 hL14 (fun y14_0 hy => ?_) (fun y14_1 hy => ?_) ls H locs (lv_sub hl [2, 1, 0] rfl) hP hS
  · subst hy
    replace hM := gs_l hM
    intro ls H locs hl hP hS
    refine lv_iload_n hx hb d_Clerk_doLines_117 rfl (lv_at hl 0 rfl) ?_
    obtain rfl := Option.some.inj hM
    exact hR _ ls H locs d_Clerk_doLines_118 hP hS
  · subst hy
    replace hM := gs_r hM
    intro ls H locs hl hP hS
    refine lv_aload_n hx hb d_Clerk_doLines_69 rfl (lv_at hl 0 rfl) ?_
    refine lv_aload_n hx hb d_Clerk_doLines_70 rfl (lv_at hl 0 rfl) ?_
    refine g_getI C hP gl_Clerk_25 rfl rfl d_Clerk_doLines_71 ?_
    refine lv_bipush (v := (7 : Int32)) hx hb d_Clerk_doLines_74 (by decide) ?_
    refine lv_icmp_ne (tgt := 89) hx hb d_Clerk_doLines_76 (by decide) (fun hc76 => ?_) (fun hc76 => ?_)
    · replace hM := gi_f hc76 hM
      refine lv_aload_n hx hb d_Clerk_doLines_89 rfl (lv_at hl 0 rfl) ?_
      refine g_getR (b := 2) C hP gl_Clerk_12 rfl rfl rfl d_Clerk_doLines_90 ?_
      refine g_getI C hP gl_Clerk_63 rfl rfl d_Clerk_doLines_93 ?_
      exact t_Clerk_doLines_b96 C X3 hM hR ls H locs (lv_sub hl [1] rfl) hP hS
    · replace hM := gi_t hc76 hM
      refine lv_aload_n hx hb d_Clerk_doLines_79 rfl (lv_at hl 0 rfl) ?_
      refine g_getR (b := 2) C hP gl_Clerk_12 rfl rfl rfl d_Clerk_doLines_80 ?_
      refine g_getI C hP gl_Clerk_60 rfl rfl d_Clerk_doLines_83 ?_
      refine lv_goto (tgt := 96) hx hb d_Clerk_doLines_86 (by decide) ?_
      exact t_Clerk_doLines_b96 C X3 hM hR ls H locs (lv_sub hl [1] rfl) hP hS
theorem c_Clerk_doLines {l : Launch} {cy : Nat → ClassId} {D : va_G} {ρ : Nat → Nat} {A : Nat → Prop} {K : gKd} (hD : gD ρ A) {u : gSt} {z : (Int32 × gSt)} (hM : M_Clerk_doLines u = some z) : gCtI3 l y_Clerk_doLines prog_4_method_2_code 3 (some .int) 7 150 cy D ρ A K [.ref (ρ 1)] u z.1 z.2 :=
  g_met3 (by decide) hD (Nat.le_of_ble_eq_true rfl) (fun p e s m below meth c ls X X3 hl hP => t_Clerk_doLines X X3 hM (fun pc ls H locs hd hP hS => g_iret X hP hS hd) ls _ [] hl hP va_S.rf)
end
section
variable {p : Program} {l : Launch} {e : Env} {R : Room} {s : State} {m : MethodId} {args : Array Value} {below : List Frame} {meth : Method} {c : Code} {Q : State → Prop} {H0 : Heap} {cells slots : Nat} {cy : Nat → ClassId} {D : va_G} {ρ : Nat → Nat} {A : Nat → Prop} {K : gKd}
def y_Desk_run : MethodName := ⟨"TermDesk", "run", "()I"⟩
theorem gi_Desk_run : gMi y_Desk_run prog_1_method_4_code 2 (some .int) 0 0 := ⟨(gWs_at 417 (by decide +kernel) (by decide +kernel)), (gWs_at 415 (by decide +kernel) (by decide +kernel)), (gWs_at 416 (by decide +kernel) (by decide +kernel)), (gWs_at 117 (by decide +kernel) (by decide +kernel)), ⟨by decide +kernel, by decide +kernel, by decide +kernel⟩, _, _, rfl⟩
theorem gm_Law_72 : gMk "TermDeskLaw" 72 y_Desk_run := Or.inl (gWs_at 414 (by decide +kernel) (by decide +kernel))
theorem d_Desk_run_0 : decode prog_1_method_4_code 0 = .ok (.aload_n 0, 1) := by decide +kernel
theorem d_Desk_run_1 : decode prog_1_method_4_code 1 = .ok (.getfield 10, 3) := by decide +kernel
theorem d_Desk_run_4 : decode prog_1_method_4_code 4 = .ok (.invokevirtual 73, 3) := by decide +kernel
theorem d_Desk_run_7 : decode prog_1_method_4_code 7 = .ok (.istore_n 1, 1) := by decide +kernel
theorem d_Desk_run_8 : decode prog_1_method_4_code 8 = .ok (.aload_n 0, 1) := by decide +kernel
theorem d_Desk_run_9 : decode prog_1_method_4_code 9 = .ok (.aload_n 0, 1) := by decide +kernel
theorem d_Desk_run_10 : decode prog_1_method_4_code 10 = .ok (.getfield 10, 3) := by decide +kernel
theorem d_Desk_run_13 : decode prog_1_method_4_code 13 = .ok (.getfield 77, 3) := by decide +kernel
theorem d_Desk_run_16 : decode prog_1_method_4_code 16 = .ok (.putfield 40, 3) := by decide +kernel
theorem d_Desk_run_19 : decode prog_1_method_4_code 19 = .ok (.aload_n 0, 1) := by decide +kernel
theorem d_Desk_run_20 : decode prog_1_method_4_code 20 = .ok (.aload_n 0, 1) := by decide +kernel
theorem d_Desk_run_21 : decode prog_1_method_4_code 21 = .ok (.getfield 10, 3) := by decide +kernel
theorem d_Desk_run_24 : decode prog_1_method_4_code 24 = .ok (.getfield 80, 3) := by decide +kernel
theorem d_Desk_run_27 : decode prog_1_method_4_code 27 = .ok (.putfield 44, 3) := by decide +kernel
theorem d_Desk_run_30 : decode prog_1_method_4_code 30 = .ok (.aload_n 0, 1) := by decide +kernel
theorem d_Desk_run_31 : decode prog_1_method_4_code 31 = .ok (.getfield 20, 3) := by decide +kernel
theorem d_Desk_run_34 : decode prog_1_method_4_code 34 = .ok (.iconst 0, 1) := by decide +kernel
theorem d_Desk_run_35 : decode prog_1_method_4_code 35 = .ok (.putfield 51, 3) := by decide +kernel
theorem d_Desk_run_38 : decode prog_1_method_4_code 38 = .ok (.aload_n 0, 1) := by decide +kernel
theorem d_Desk_run_39 : decode prog_1_method_4_code 39 = .ok (.iconst 0, 1) := by decide +kernel
theorem d_Desk_run_40 : decode prog_1_method_4_code 40 = .ok (.putfield 47, 3) := by decide +kernel
theorem d_Desk_run_43 : decode prog_1_method_4_code 43 = .ok (.iload_n 1, 1) := by decide +kernel
theorem d_Desk_run_44 : decode prog_1_method_4_code 44 = .ok (.ireturn, 1) := by decide +kernel
noncomputable def M_Desk_run (u : gSt) : Option ((Int32 × gSt)) :=
  (M_Clerk_doLines u).bind fun q4 =>
  (some (gsF q4.2 0 5 (q4.2.1 1 2))).bind fun u16 =>
  (some (gsF u16 0 6 (u16.1 1 3))).bind fun u27 =>
  (some (gsF u27 2 1 (0 : Int32))).bind fun u35 =>
  (some (gsF u35 0 7 (0 : Int32))).bind fun u40 =>
  some (q4.1, u40)
set_option maxHeartbeats 4000000 in
set_option maxRecDepth 100000 in
theorem t_Desk_run (C : gX "TermDesk" prog_1_method_4_code 2 (some .int) 8 172 R cells slots cy D ρ A p s m args meth c) (X3 : gX3 A K s s.heap) {u : gSt} {z : (Int32 × gSt)} (hM : M_Desk_run u = some z) (hR : gRtI p l e R s m args below meth c Q s.heap cells slots cy D ρ A prog_1_method_4_code z.1 z.2) : gAt p l e R s m args below meth c Q s.heap cells slots cy D ρ A 2 0 [(0, .ref (ρ 0))] [] u := by
  intro ls H locs hl hP hS
  have hx := C.1
  have hb := C.2.1
  unfold M_Desk_run at hM
  refine lv_aload_n hx hb d_Desk_run_0 rfl (lv_at hl 0 rfl) ?_
  refine g_getR (b := 1) C hP gl_Desk_10 rfl rfl rfl d_Desk_run_1 ?_
  obtain ⟨q4, hq4, hM⟩ := gb_some hM
  refine g_backI (g_runV3 (As := []) C X3 hP hS (c_Clerk_doLines C.2.2.2.2.2.2.2.2.1 hq4) gi_Clerk_doLines gm_Desk_73 rfl rfl (by decide) (by decide) hl.1 rfl (Nat.le_of_ble_eq_true rfl) d_Desk_run_4) hS (fun H locs hP hS => ?_)
  refine lv_istore_n (lv' := [(1, .int q4.1), (0, .ref (ρ 0))]) hx hb d_Desk_run_7 rfl hl (by decide) rfl (fun ls hl => ?_)
  refine lv_aload_n hx hb d_Desk_run_8 rfl (lv_at hl 1 rfl) ?_
  refine lv_aload_n hx hb d_Desk_run_9 rfl (lv_at hl 1 rfl) ?_
  refine g_getR (b := 1) C hP gl_Desk_10 rfl rfl rfl d_Desk_run_10 ?_
  refine g_getI C hP gl_Desk_77 rfl rfl d_Desk_run_13 ?_
  obtain ⟨u16, e16, hM⟩ := gb_some hM
  refine g_putI C hP hS gl_Desk_40 rfl rfl gq_0_5 d_Desk_run_16 (fun H locs hP hS => ?_)
  rw [Option.some.inj e16] at hP
  refine lv_aload_n hx hb d_Desk_run_19 rfl (lv_at hl 1 rfl) ?_
  refine lv_aload_n hx hb d_Desk_run_20 rfl (lv_at hl 1 rfl) ?_
  refine g_getR (b := 1) C hP gl_Desk_10 rfl rfl rfl d_Desk_run_21 ?_
  refine g_getI C hP gl_Desk_80 rfl rfl d_Desk_run_24 ?_
  obtain ⟨u27, e27, hM⟩ := gb_some hM
  refine g_putI C hP hS gl_Desk_44 rfl rfl gq_0_6 d_Desk_run_27 (fun H locs hP hS => ?_)
  rw [Option.some.inj e27] at hP
  refine lv_aload_n hx hb d_Desk_run_30 rfl (lv_at hl 1 rfl) ?_
  refine g_getR (b := 2) C hP gl_Desk_20 rfl rfl rfl d_Desk_run_31 ?_
  refine lv_iconst (v := (0 : Int32)) hx hb d_Desk_run_34 (by decide) ?_
  obtain ⟨u35, e35, hM⟩ := gb_some hM
  refine g_putI C hP hS gl_Desk_51 rfl rfl gq_2_1 d_Desk_run_35 (fun H locs hP hS => ?_)
  rw [Option.some.inj e35] at hP
  refine lv_aload_n hx hb d_Desk_run_38 rfl (lv_at hl 1 rfl) ?_
  refine lv_iconst (v := (0 : Int32)) hx hb d_Desk_run_39 (by decide) ?_
  obtain ⟨u40, e40, hM⟩ := gb_some hM
  refine g_putZ C hP hS gl_Desk_47 rfl rfl gq_0_7 rfl d_Desk_run_40 (fun H locs hP hS => ?_)
  rw [Option.some.inj e40] at hP
  refine lv_iload_n hx hb d_Desk_run_43 rfl (lv_at hl 0 rfl) ?_
  obtain rfl := Option.some.inj hM
  exact hR _ ls H locs d_Desk_run_44 hP hS
theorem c_Desk_run {l : Launch} {cy : Nat → ClassId} {D : va_G} {ρ : Nat → Nat} {A : Nat → Prop} {K : gKd} (hD : gD ρ A) {u : gSt} {z : (Int32 × gSt)} (hM : M_Desk_run u = some z) : gCtI3 l y_Desk_run prog_1_method_4_code 2 (some .int) 8 172 cy D ρ A K [.ref (ρ 0)] u z.1 z.2 :=
  g_met3 (by decide) hD (Nat.le_of_ble_eq_true rfl) (fun p e s m below meth c ls X X3 hl hP => t_Desk_run X X3 hM (fun pc ls H locs hd hP hS => g_iret X hP hS hd) ls _ [] hl hP va_S.rf)
end
