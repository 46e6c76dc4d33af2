/-! Rows for constructors: worlds X ++ Y, X the cells by name, Y what else there is. -/
theorem gPP {D : va_G} {cl : List vw_C} {ws ws' : va_W} {H : Heap} (hp : ws.Perm ws') (h : va_P D cl ws H) : va_P D cl ws' H := fun k q hk => by
  have hm : q ∈ ws := hp.mem_iff.mpr (List.mem_of_getElem? hk)
  obtain ⟨i, hi⟩ := List.getElem?_of_mem hm
  exact h i q hi
theorem gDiff {A : Nat → Prop} {ws : va_W} : va_D A ws ↔ (ws.map Prod.fst).Pairwise (· ≠ ·) ∧ ∀ q ∈ ws, A q.1 := by
  constructor
  · intro h
    refine ⟨?_, fun q hq => ?_⟩
    · rw [List.pairwise_iff_getElem]
      intro i j hi hj hij heq
      have hil : i < ws.length := by simpa using hi
      have hjl : j < ws.length := by simpa using hj
      rw [List.getElem_map, List.getElem_map] at heq
      have := h.1 i j _ _ (List.getElem?_eq_getElem hil) (List.getElem?_eq_getElem hjl) heq
      omega
    · obtain ⟨i, hi⟩ := List.getElem?_of_mem hq
      exact h.2 i q hi
  · intro ⟨h1, h2⟩
    refine ⟨fun i j x y hi hj e => ?_, fun k q hk => h2 q (List.mem_of_getElem? hk)⟩
    rw [List.pairwise_iff_getElem] at h1
    obtain ⟨hil, ei⟩ := List.getElem?_eq_some_iff.mp hi
    obtain ⟨hjl, ej⟩ := List.getElem?_eq_some_iff.mp hj
    rcases Nat.lt_trichotomy i j with h | h | h
    · exact absurd (by rw [List.getElem_map, List.getElem_map, ei, ej]; exact e) (h1 i j (by simpa using hil) (by simpa using hjl) h)
    · exact h
    · exact absurd (by rw [List.getElem_map, List.getElem_map, ei, ej]; exact e.symm) (h1 j i (by simpa using hjl) (by simpa using hil) h)
theorem gPD {A : Nat → Prop} {ws ws' : va_W} (hp : ws.Perm ws') (h : va_D A ws) : va_D A ws' := by
  rw [gDiff] at h ⊢
  exact ⟨((hp.map Prod.fst).pairwise_iff (fun h => h.symm)).mp h.1, fun q hq => h.2 q (hp.mem_iff.mpr hq)⟩
theorem gp_new {X Y : va_W} {x : Nat × va_E} : ((X ++ Y) ++ [x]).Perm ((X ++ [x]) ++ Y) := by
  rw [List.append_assoc, List.append_assoc]
  exact List.Perm.append_left X List.perm_append_comm
theorem gp_pick {X Y : va_W} {x : Nat × va_E} : ((X ++ [x]) ++ Y).Perm ([x] ++ (X ++ Y)) := by
  rw [← List.append_assoc]
  exact List.Perm.append_right Y List.perm_append_comm
theorem gp_back {X X1 Y : va_W} : (X1 ++ (X ++ Y)).Perm ((X ++ X1) ++ Y) := by
  rw [← List.append_assoc]
  exact List.Perm.append_right Y List.perm_append_comm
theorem gp_backR {X X1 Y Z : va_W} : (X1 ++ ((X ++ Y) ++ Z)).Perm ((X ++ X1) ++ (Y ++ Z)) := by
  rw [List.append_assoc X Y Z]
  exact gp_back
/-- the class of int[][]: over the class of int[] -/
def gAO (cy : Nat → ClassId) (U : State) : Prop := ∃ k : Class, U.vm.classes[cy 25]? = some k ∧ k.kind = .array (cy 22) (.array .int)
theorem gAO.moved {cy : Nat → ClassId} {u U : State} (hvm : u.vm.Alike U.vm) (h : gAO cy u) : gAO cy U := by
  obtain ⟨k, h1, h2⟩ := h
  obtain ⟨k', hk', he⟩ := hvm.2.2 _ _ h1
  exact ⟨k', hk', by rw [he]; exact h2⟩
def gNw (cy : Nat → ClassId) (D : va_G) (A : Nat → Prop) (ws : va_W) (U : State) : Prop := va_P D gCl ws U.heap ∧ va_D A ws ∧ va_K D gCl (gTys cy) U ∧ (∀ w ∈ gNs, va_Nw w U) ∧ (∀ q, U.heap.size ≤ q → A q) ∧ gAO cy U
theorem gNw_blind {cy : Nat → ClassId} {D : va_G} {A : Nat → Prop} {ws : va_W} {av : List Value} : FrameBlind (va_Pc av (gNw cy D A ws)) := fun a U g mk h => ⟨h.1, h.2.1, h.2.2.1, va_K.moved (u := U) (U := U.calling g mk a) (Vm.Alike.refl U.vm) h.2.2.2.1, fun w hw => va_Nw.same (u := U) (U := U.calling g mk a) (gNest_tab (gNs_nest hw)) rfl (h.2.2.2.2.1 w hw), h.2.2.2.2.2.1, gAO.moved (u := U) (U := U.calling g mk a) (Vm.Alike.refl U.vm) h.2.2.2.2.2.2⟩
section GN
variable {p : Program} {l : Launch} {e : Env} {R : Room} {s : State} {m : MethodId} {args : Array Value} {below : List Frame} {meth : Method} {c : Code} {H : Heap} {locs : List Loc} {cells slots : Nat} {Q : State → Prop}
variable {cc : ByteArray} {pc nL : Nat} {ls : Array Slot} {rest : List Value} {D : va_G} {A : Nat → Prop} {cy : Nat → ClassId} {H0 : Heap} {X Y : va_W} {own : String}
/-- what the body of a constructor stands on -/
def gXn (own : String) (cc : ByteArray) (nL : Nat) (cy : Nat → ClassId) (D : va_G) (A : Nat → Prop) (p : Program) (s : State) (m : MethodId) (args : Array Value) (meth : Method) (c : Code) : Prop :=
  p.tables.exec = Jvm.exec ∧ c.code = cc ∧ c.maxLocals = nL ∧ s.vm.findClass own = some m.cls ∧ (∀ w ∈ gWs, w.before args s = true) ∧ (∀ w ∈ gNs, va_Nw w s) ∧ va_K D gCl (gTys cy) s ∧ (∀ q, s.heap.size ≤ q → A q) ∧ gAO cy s
theorem g_newO (C : gXn own cc nL cy D A p s m args meth c) (hP : va_P D gCl (X ++ Y) H) (hD : va_D A (X ++ Y)) (hS : va_S A s.heap H locs) {Cn : String} {T : u_T} {N ci index : Nat} {ty : Nat → FieldType} (hin : ∀ w ∈ u_ws Cn T N, w ∈ gWs) (hty : ∀ k, k < N → parseFieldDescriptor (T k).2.2.1 = some (ty k)) (hcl : Cond.classLink own index Cn ∈ gWs) (hinst : Cond.instantiable Cn N ∈ gWs) (hini : Cond.initialized Cn ∈ gWs) (hc : gCl[ci]? = some (Cn, T, N)) {fs : List Value} (hfs : ∀ j, j < N → defaultValue (ty j) = vp_V fs j) (hcells : cells + 1 ≤ R.cells) (hslots : slots + N ≤ R.slots) (hdg : decode cc pc = .ok (.new index, 3))
    (kk : ∀ (q : Nat) (H1 : Heap), va_P D gCl ((X ++ [(q, .inr (ci, fs))]) ++ Y) H1 → va_D A ((X ++ [(q, .inr (ci, fs))]) ++ Y) → va_S A s.heap H1 locs → W p l e R s m args below meth c H1 locs (cells + 1) (slots + N) Q (F0 m (pc + 3) ls (.ref q :: rest))) : W p l e R s m args below meth c H locs cells slots Q (F0 m pc ls rest) := by
  obtain ⟨hx, hb, hml, hown, hts, hns, hK, hA, hfs9⟩ := C
  exact va_new (D := D) hx hb hts hin ty hty hown (hts _ hcl) (hts _ hinst) (hts _ hini) hK hP hD hS hA hc hfs hcells hslots hdg (fun q H1 hp hd hs => kk q H1 (gPP gp_new hp) (gPD gp_new hd) hs)
theorem g_newA (C : gXn own cc nL cy D A p s m args meth c) (hP : va_P D gCl (X ++ Y) H) (hD : va_D A (X ++ Y)) (hS : va_S A s.heap H locs) {atype : ArrayType} {ty : FieldType} {ki k0 : Nat} (harr : Cond.arrayClass (newarray.typeOf atype) ∈ gWs) (hty : newarray.typeOf atype = ty) (ht : (gTys cy)[k0]? = some (cy ki, ty)) (hra : ∀ (U : State) (cA : ClassId), va_RA U cA ty ↔ U.vm.findClass ("[" ++ ty.toString) = some cA) {n : Int32} {N' : Nat} {a0 : vp_A} (ha : ∀ cA : ClassId, vp_cell cA a0 = arrV cA N' (fun _ => defaultValue ty)) (hn : ¬ n < 0) (hN : n.toNatClampNeg = N') (hbytes : N' * componentBytes ty ≤ 536870912) (hcells : cells + 1 ≤ R.cells) (hslots : slots + N' ≤ R.slots) (hdg : decode cc pc = .ok (.newarray atype, 2))
    (kk : ∀ (q : Nat) (H1 : Heap), va_P D gCl ((X ++ [(q, .inl (cy ki, a0))]) ++ Y) H1 → va_D A ((X ++ [(q, .inl (cy ki, a0))]) ++ Y) → va_S A s.heap H1 locs → W p l e R s m args below meth c H1 locs (cells + 1) (slots + N') Q (F0 m (pc + 2) ls (.ref q :: rest))) : W p l e R s m args below meth c H locs cells slots Q (F0 m pc ls (.int n :: rest)) := by
  obtain ⟨hx, hb, hml, hown, hts, hns, hK, hA, hfs9⟩ := C
  refine va_newa hx hb (hts _ harr) hty hK hP hD hS hA ha hn hN hbytes hcells hslots hdg (fun q cA H1 hK1 hp hd hs => ?_)
  have h1 : va_RA s cA ty := by
    refine (hK1.2 (gTys cy).length (cA, ty) ?_).2
    rw [List.getElem?_append_right (Nat.le_refl _)]
    simp
  have h2 : va_RA s (cy ki) ty := (hK.2 k0 _ ht).2
  have e : cA = cy ki := Option.some.inj (((hra s cA).mp h1).symm.trans ((hra s (cy ki)).mp h2))
  subst e
  exact kk q H1 (gPP gp_new hp) (gPD gp_new hd) hs
/-- a constructor's contract -/
def gCtN (S : Type) (l : Launch) (y : MethodName) (cc : ByteArray) (nL f n mc ms : Nat) (cy : Nat → ClassId) (D : va_G) (A : Nat → Prop) (av : List Value) (ws : va_W) (ws' : S → va_W) : Prop :=
  Met l y (.code y cc nL none :: gWs) { frames := f, cells := mc, slots := ms, locals := n } (va_Pc av (gNw cy D A ws)) (va_Qv (fun _ : S => True) (fun qs U => gNw cy D A (ws' qs) U) A) mc ms A
theorem g_callN {S : Type} (C : gXn own cc nL cy D A p s m args meth c) (hP : va_P D gCl (X ++ Y) H) (hD : va_D A (X ++ Y)) (hS : va_S A s.heap H locs) {ws : va_W} {ws' : S → va_W} (hp : (X ++ Y).Perm ws) {y : MethodName} {bytes : ByteArray} {maxL idx k f' n' mc ms b : Nat} {As st : List Value}
    (hM : gCtN S l y bytes maxL f' n' mc ms cy D A (.ref b :: As) ws ws') (hcode : Cond.code y bytes maxL none ∈ gWs) (hins : Cond.instanceMethod y ∈ gWs) (hini : Cond.initialized y.cls ∈ gWs) (hd : y.cls ≠ "java/lang/invoke/MethodHandle" ∧ y.cls ≠ "java/lang/invoke/VarHandle" ∧ (parseMethodDescriptor y.desc).map (fun d => d.parameters.length) = some k) (hnm : y.name = "<init>") (hl : gMk own idx y) (hk : As.length = k) (hf : f' + 1 ≤ R.frames) (hn : 8 + (maxL + 11) + n' ≤ R.locals) (hsz : ls.size = nL) (hst : st = As.reverse ++ .ref b :: rest) (hcat : (rest.map fun v => v.category).sum ≤ 8) (hdg : decode cc pc = .ok (.invokespecial idx, 3)) (hfit : cells + mc ≤ R.cells ∧ slots + ms ≤ R.slots)
    (kk : ∀ (qs : S) (H1 : Heap) (locs1 : List Loc), va_P D gCl (ws' qs) H1 → va_D A (ws' qs) → va_S A s.heap H1 locs1 → W p l e R s m args below meth c H1 locs1 (cells + mc) (slots + ms) Q (F0 m (pc + 3) ls rest)) : W p l e R s m args below meth c H locs cells slots Q (F0 m pc ls st) := by
  obtain ⟨hx, hb, hml, hown, hts, hns, hK, hA, hfs9⟩ := C
  have hpre : PreS s H (va_Pc (.ref b :: As) (gNw cy D A ws)) (.ref b :: As) := ⟨gNw_blind, fun U hU hW => ⟨rfl, by rw [hU]; exact gPP hp hP, gPD hp hD, va_K.moved hW.alike hK, gNs_warm hW hns, fun q hq => hA q (Nat.le_trans hS.1 (by rw [hU] at hq; exact hq)), gAO.moved hW.alike hfs9⟩⟩
  have hrun : va_Run p l e R s m args below meth c H locs cells slots mc ms (F0 m pc ls st) rest (va_Qv (fun _ : S => True) (fun qs U => gNw cy D A (ws' qs) U) A (Value.ref b :: As).toArray) A := by
    rcases hl with hl | ⟨host, hl⟩
    · exact va_runI (Ts := gWs) (n := k) ⟨hx, hb, hml, hown, hts⟩ hM ⟨callB_of k hts (gWs_in hcode) rfl rfl rfl (hts _ hini) (hts _ hl) hd ⟨hf, hn⟩, hnm, hts _ hins⟩ hpre rfl hk hsz hst (lv_room hcat) hdg hfit
    · exact va_runIN (Ts := gWs) (n := k) ⟨hx, hb, hml, hown, hts⟩ hM ⟨va_cnB k hts (gWs_in hcode) rfl rfl rfl (hns _ hl) (hts _ hini) hd ⟨hf, hn⟩, hnm, hts _ hins⟩ hpre rfl hk hsz hst (lv_room hcat) hdg hfit
  refine va_callv hrun hS (fun q _ h => h) (fun q h => h) (fun qs t H1 l1 ht _ _ hB _ _ hS1 => ?_)
  exact kk qs H1 l1 (by rw [← ht]; exact hB.1) hB.2.1 hS1
theorem g_vretN {S : Type} (C : gXn own cc nL cy D A p s m args meth c) (hr : meth.sig.returnType = none) (hlk : meth.locks = false) {ws' : S → va_W} (qs : S) (hP : va_P D gCl (ws' qs) H) (hD : va_D A (ws' qs)) (hS : va_S A s.heap H locs) (hdg : decode cc pc = .ok (.return_, 1)) : W p l e R s m args below meth c H locs cells slots (MQ below (va_Qv (fun _ : S => True) (fun qs U => gNw cy D A (ws' qs) U) A) args s cells slots A) (F0 m pc ls []) := by
  obtain ⟨hx, hb, hml, hown, hts, hns, hK, hA, hfs9⟩ := C
  exact W.vret hx hb hr (fun t ht hW => ⟨⟨qs, rfl, trivial, by rw [ht]; exact hP, hD, va_K.moved hW.alike hK, gNs_warm hW hns, fun q hq => hA q (Nat.le_trans hS.1 (by rw [ht] at hq; exact hq)), gAO.moved hW.alike hfs9⟩, hS.F ht⟩) hS.2.2 hdg hlk
theorem g_metN {S : Type} {y : MethodName} {f n mc ms : Nat} {ws : va_W} {ws' : S → va_W} {av : List Value} (hy : plainName y.cls = true) (hav : (lg_sl av).length ≤ nL)
    (body : ∀ (p : Program) (e : Env) (s : State) (m : MethodId) (below : List Frame) (meth : Method) (c : Code) (ls : Array Slot), gXn y.cls cc nL cy D A p s m av.toArray meth c → meth.sig.returnType = none → meth.locks = false → meth.name = y.name → lv_has ls nL (lv_args 0 av) → va_P D gCl ws s.heap → va_D A ws → W p l e { frames := f, cells := mc, slots := ms, locals := n } s m av.toArray below meth c s.heap [] 0 0 (MQ below (va_Qv (fun _ : S => True) (fun qs U => gNw cy D A (ws' qs) U) A) av.toArray s mc ms A) (F0 m 0 ls [])) :
    gCtN S l y cc nL f n mc ms cy D A av ws ws' := by
  refine Met.ofW (cc := cc) (maxL := nL) (ret := none) hy rfl ?_
  intro p e s m args below meth c s₁ B hml hv
  obtain ⟨rfl, hP, hD, hK, hns, hA, hfs9⟩ := hv
  have hts := atoms_spec (ws := .code y cc nL none :: gWs) B.pre
  have hl := lv_entry av (n := nL) hav
  rw [lg_entry_eq]
  exact body p e s m below meth c _ ⟨B.exec, B.bytes, hml, findClass_of_methodNamed B.named, fun w hw => hts w (List.mem_cons_of_mem _ hw), hns, hK, hA, hfs9⟩ B.returns B.notSynchronized (name_of_methodNamed B.named B.method).1 hl hP hD
end GN
