/-! Methods of the class that meet the constants: contracts, call rows. -/
def gCtI3 (l : Launch) (y : MethodName) (cc : ByteArray) (nL : Nat) (ret : Option FieldType) (f n : Nat) (cy : Nat → ClassId) (D : va_G) (ρ : Nat → Nat) (A : Nat → Prop) (K : gKd) (av : List Value) (u : gSt) (r : Int32) (u' : gSt) : Prop :=
  Met l y (.code y cc nL ret :: gWs) (gRm f n) (va_Pc av (gB3 cy D ρ A K u)) (va_Qi (fun r1 v => r1 = r ∧ v = u') (gB cy D ρ) A) 0 0 A
def gCtE3 (l : Launch) (y : MethodName) (cc : ByteArray) (nL : Nat) (ret : Option FieldType) (f n : Nat) (cy : Nat → ClassId) (D : va_G) (ρ : Nat → Nat) (A : Nat → Prop) (K : gKd) (av : List Value) (u : gSt) (o : Option Nat) (u' : gSt) : Prop :=
  Met l y (.code y cc nL ret :: gWs) (gRm f n) (va_Pc av (gB3 cy D ρ A K u)) (va_Qe K.2.2.1 (fun r1 v => r1 = o ∧ v = u') (gB cy D ρ) A) 0 0 A
section GK2
variable {p : Program} {l : Launch} {e : Env} {R : Room} {s : State} {m : MethodId} {args : Array Value} {below : List Frame} {meth : Method} {c : Code} {H : Heap} {locs : List Loc} {cells slots : Nat} {Q : State → Prop}
variable {cc : ByteArray} {pc nL : Nat} {ls : Array Slot} {rest : List Value} {D : va_G} {A : Nat → Prop} {a : Nat} {cy : Nat → ClassId} {ρ : Nat → Nat} {u : gSt} {own : String} {ret : Option FieldType} {f n : Nat} {K : gKd}
theorem g_runV3 (X : gX own cc nL ret f n R cells slots cy D ρ A p s m args meth c) (X3 : gX3 A K s s.heap) (hP : va_P D gCl (gW cy ρ u) H) (hS : va_S A s.heap H locs) {y : MethodName} {bytes : ByteArray} {maxL idx k ci f' n' : Nat} {ret' : Option FieldType} {As : List Value} {st : List Value} {Qc : Array Value → State → Outcome → State → Prop}
    (hM : Met l y (.code y bytes maxL ret' :: gWs) (gRm f' n') (va_Pc (.ref (ρ a) :: As) (gB3 cy D ρ A K u)) Qc 0 0 A) (hy : gMi y bytes maxL ret' k ci) (hl : gMk own idx y) (ha : gK a = ci) (hk : As.length = k) (hf : f' + 1 ≤ f) (hn : 8 + (maxL + 11) + n' ≤ n) (hsz : ls.size = nL) (hst : st = As.reverse ++ .ref (ρ a) :: rest) (hcat : (rest.map fun v => v.category).sum ≤ 8) (hdg : decode cc pc = .ok (.invokevirtual idx, 3)) :
    va_Run p l e R s m args below meth c H locs cells slots 0 0 (F0 m pc ls st) rest (Qc (Value.ref (ρ a) :: As).toArray) A := by
  have X' := X
  obtain ⟨hx, hb, hml, hr, hown, hts, hns, hK, hD, ⟨hr1, hr2, hr3, hr4⟩, -⟩ := X
  obtain ⟨hcode, hins, hsel, hini, hd, T, N, hc⟩ := hy
  have he := g_obj (cy := cy) (ρ := ρ) (u := u) ha (by have := g_cl hc; omega)
  have hrc := va_recv hK hP hc he
  have hpre : PreV s H y.cls (ρ a) (va_Pc (.ref (ρ a) :: As) (gB3 cy D ρ A K u)) As := ⟨gB3_blind, hrc, fun U hU hW => ⟨rfl, gB3_pre X' X3 hP hS hU hW⟩⟩
  have hroom : (gRm f' n').frames + 1 ≤ R.frames ∧ 8 + (maxL + 11) + (gRm f' n').locals ≤ R.locals := ⟨Nat.le_trans hf hr1, Nat.le_trans hn hr2⟩
  rcases hl with hl | ⟨host, hl⟩
  · exact va_runV (Ts := gWs) (rm := gRm f' n') (n := k) ⟨hx, hb, hml, hown, hts⟩ hM ⟨callB_of k hts (gWs_in hcode) rfl rfl rfl (hts _ hini) (hts _ hl) hd hroom, hts _ hins, hts _ hsel⟩ hpre rfl hk hsz hst (lv_room hcat) hdg ⟨hr3, hr4⟩
  · exact va_runVN (Ts := gWs) (rm := gRm f' n') (n := k) ⟨hx, hb, hml, hown, hts⟩ hM ⟨va_cnB k hts (gWs_in hcode) rfl rfl rfl (hns _ hl) (hts _ hini) hd hroom, hts _ hins, hts _ hsel⟩ hpre rfl hk hsz hst (lv_room hcat) hdg ⟨hr3, hr4⟩
theorem g_backE {H0 : Heap} {a' : Array Value} {st0 : List Value} {o : Option Nat} {u' : gSt} (hr : va_Run p l e R s m args below meth c H locs cells slots 0 0 (F0 m pc ls st0) rest (va_Qe K.2.2.1 (fun r1 v => r1 = o ∧ v = u') (gB cy D ρ) A a') A) (hS : va_S A H0 H locs)
    (kk : ∀ (H1 : Heap) (locs1 : List Loc), va_P D gCl (gW cy ρ u') H1 → va_S A H0 H1 locs1 → W p l e R s m args below meth c H1 locs1 cells slots Q (F0 m (pc + 3) ls (va_re K.2.2.1 o :: rest))) : W p l e R s m args below meth c H locs cells slots Q (F0 m pc ls st0) := by
  refine va_calle hr hS (fun q _ h => h) (fun q h => h) (fun r1 v t H1 l1 ht _ hp hB _ _ hS1 => ?_)
  obtain ⟨rfl, rfl⟩ := hp
  exact kk H1 l1 (by rw [← ht]; exact hB.1) hS1
theorem g_met3 {y : MethodName} {maxL : Nat} {Qc : Array Value → State → Outcome → State → Prop} {av : List Value} (hy : plainName y.cls = true) (hD : gD ρ A) (hav : (lg_sl av).length ≤ maxL)
    (body : ∀ (p : Program) (e : Env) (s : State) (m : MethodId) (below : List Frame) (meth : Method) (c : Code) (ls : Array Slot), gX y.cls cc maxL ret f n (gRm f n) 0 0 cy D ρ A p s m av.toArray meth c → gX3 A K s s.heap → lv_has ls maxL (lv_args 0 av) → va_P D gCl (gW cy ρ u) s.heap → W p l e (gRm f n) s m av.toArray below meth c s.heap [] 0 0 (MQ below Qc av.toArray s 0 0 A) (F0 m 0 ls [])) :
    Met l y (.code y cc maxL ret :: gWs) (gRm f n) (va_Pc av (gB3 cy D ρ A K u)) Qc 0 0 A := by
  refine Met.ofW (cc := cc) (maxL := maxL) (ret := ret) hy rfl ?_
  intro p e s m args below meth c s₁ B hml hv
  obtain ⟨rfl, ⟨hP, hK, hns⟩, hX3⟩ := hv
  have hts := atoms_spec (ws := .code y cc maxL ret :: gWs) B.pre
  have hl := lv_entry av (n := maxL) hav
  rw [lg_entry_eq]
  exact body p e s m below meth c _ ⟨B.exec, B.bytes, hml, B.returns, findClass_of_methodNamed B.named, fun w hw => hts w (List.mem_cons_of_mem _ hw), hns, hK, hD, ⟨Nat.le_refl _, Nat.le_refl _, Nat.le_refl _, Nat.le_refl _⟩, B.notSynchronized⟩ hX3 hl hP
def gRtE (p : Program) (l : Launch) (e : Env) (R : Room) (s : State) (m : MethodId) (args : Array Value) (below : List Frame) (meth : Method) (c : Code) (Q : State → Prop) (H0 : Heap) (cells slots : Nat) (cy : Nat → ClassId) (D : va_G) (ρ : Nat → Nat) (A : Nat → Prop) (K : gKd) (cc : ByteArray) (o : Option Nat) (u : gSt) : Prop := ∀ (pc : Nat) (ls : Array Slot) (H : Heap) (locs : List Loc), decode cc pc = .ok (.areturn, 1) → va_P D gCl (gW cy ρ u) H → va_S A H0 H locs → W p l e R s m args below meth c H locs cells slots Q (F0 m pc ls [va_re K.2.2.1 o])
theorem g_eret {C9 : String} (X : gX own cc nL (some (.object C9)) f n R cells slots cy D ρ A p s m args meth c) (hP : va_P D gCl (gW cy ρ u) H) (hS : va_S A s.heap H locs) {o : Option Nat} (hdg : decode cc pc = .ok (.areturn, 1)) : W p l e R s m args below meth c H locs cells slots (MQ below (va_Qe K.2.2.1 (fun r1 v1 => r1 = o ∧ v1 = u) (gB cy D ρ) A) args s cells slots A) (F0 m pc ls [va_re K.2.2.1 o]) := by
  have X' := X
  obtain ⟨hx, hb, hml, hr, hown, hts, hns, hK, hD, -, hlk⟩ := X
  refine W.aret hx hb hr (Or.inl ⟨_, rfl⟩) ?_ (fun t ht hW => ⟨⟨o, u, rfl, ⟨rfl, rfl⟩, gB_pre X' hP ht hW⟩, hS.F ht⟩) hS.2.2 hdg hlk
  cases o with
  | none => exact Or.inl rfl
  | some i => exact Or.inr ⟨_, rfl⟩
/-- a field of a kind, asked by a nest mate -/
theorem g_getK (X : gX own cc nL ret f n R cells slots cy D ρ A p s m args meth c) (hS : va_S A s.heap H locs) {o9 n9 d9 host : String} {idx q : Nat} {v : Value} (hE : va_OF o9 n9 d9 v q A s s.heap) (hl : Cond.fieldLinkNest own idx o9 n9 d9 host ∈ gNs) (hdg : decode cc pc = .ok (.getfield idx, 3))
    (kk : W p l e R s m args below meth c H locs cells slots Q (F0 m (pc + 3) ls (v :: rest))) : W p l e R s m args below meth c H locs cells slots Q (F0 m pc ls (.ref q :: rest)) := by
  obtain ⟨hx, hb, hml, hr, hown, hts, hns, hK, hD, -⟩ := X
  obtain ⟨cf, k, fi, f9, cell, h1, h2, h3, h4, h5, h6⟩ := hE.kept hS.2.1
  exact va_Wgetf hx hb hown (va_Nw.use rfl (hns _ hl)) h1 h2 h3 h4 h5 rfl rfl hdg kk
end GK2
/-! kind.ordinal() -/
section OR
variable {p : Program} {l : Launch} {e : Env} {R : Room} {s : State} {m : MethodId} {args : Array Value} {below : List Frame} {meth : Method} {c : Code} {H : Heap} {locs : List Loc} {cells slots : Nat} {Q : State → Prop}
variable {cc : ByteArray} {pc nL : Nat} {ls : Array Slot} {rest : List Value} {A : Nat → Prop} {own : String}
theorem d_ord_0 : decode prog_14_method_2_code 0 = .ok (.aload_n 0, 1) := by decide +kernel
theorem d_ord_1 : decode prog_14_method_2_code 1 = .ok (.getfield 7, 3) := by decide +kernel
theorem d_ord_4 : decode prog_14_method_2_code 4 = .ok (.ireturn, 1) := by decide +kernel
theorem or_W (hx : p.tables.exec = Jvm.exec) (hb : c.code = cc) (hml : c.maxLocals = ls.size) (hown : s.vm.findClass own = some m.cls) {index : Nat} (hlink : (Cond.methodLink own index ⟨"TermDesk$LineKind", "ordinal", "()I"⟩).before args s = true) (hsame : (Cond.sameMethod "TermDesk$LineKind" "java/lang/Enum" "ordinal" "()I").before args s = true) (hsel : (Cond.selects "TermDesk$LineKind" ⟨"TermDesk$LineKind", "ordinal", "()I"⟩ ⟨"java/lang/Enum", "ordinal", "()I"⟩).before args s = true) (hinst : (Cond.instanceMethod ⟨"java/lang/Enum", "ordinal", "()I"⟩).before args s = true) (hcode : (Cond.code ⟨"java/lang/Enum", "ordinal", "()I"⟩ prog_14_method_2_code 1 (some .int)).before args s = true) (hfl : (Cond.fieldLink "java/lang/Enum" 7 "java/lang/Enum" "ordinal" "I").before args s = true) {b : Nat} {v : Int32} (hO : va_O "TermDesk$LineKind" b A s H) (hF : va_OF "java/lang/Enum" "ordinal" "I" (.int v) b A s H) (hframes : 1 ≤ R.frames) (hlocals : (rest.map fun v => v.category).sum + 12 ≤ R.locals) (hdg : decode cc pc = .ok (.invokevirtual index, 3))
    (kk : W p l e R s m args below meth c H locs cells slots Q (F0 m (pc + 3) ls (.int v :: rest))) : W p l e R s m args below meth c H locs cells slots Q (F0 m pc ls (.ref b :: rest)) := by
  intro T hT X
  subst hT
  subst hb
  have hpl : e.platform.magicAccessors = ({} : Platform).magicAccessors := by rw [X.admits.platform]
  obtain ⟨cellB, hcellB, hstatB, hcB, -⟩ := hO
  obtain ⟨cf, kf, fi, f9, cell, h1, h2, h3, h4, h5, -⟩ := hF
  obtain ⟨mk, methM, hnamed, hmethM, hstM, habM⟩ := Cond.instanceMethod_spec hinst
  obtain ⟨cn, ck, r1, hcn, hck, hni, hf, hn1⟩ := Cond.sameMethod_found hsame
  cases hnamed.symm.trans hn1
  obtain ⟨methM', cM, hmethM', hcodeM', hbytesM, hlocalsM, hretM, hlockM, -, hsigR⟩ := Cond.code_spec hnamed hcode
  cases hmethM.symm.trans hmethM'
  obtain ⟨c2, r2, m2, q1, q2, q3, q4, kP, hkP, hkPi⟩ := Cond.selects_spec hsel
  cases hcB.symm.trans q1
  cases hf.symm.trans q2
  cases hnamed.symm.trans q3
  have hselP : selectMethod e.platform s.vm cellB.cls mk = .method mk := by rw [Launch.admits_selectMethod X.admits]; exact q4
  obtain ⟨vm1, X1, hstep1⟩ := X.invokevirtualUp hx hown hlink hsame (by decide) hnamed hmethM hstM (a := b) (cell := cellB) hcellB
    (fun z h => by rw [h] at hstatB; cases hstatB) hselP hmethM habM hkP hkPi (g := F0 m pc ls (.ref b :: rest)) rfl (argsL := []) (rest := rest) (by
      have hd : parseMethodDescriptor "()I" = some { parameters := [], returnType := some .int } := by decide +kernel
      have h9 := hsigR
      rw [hd] at h9
      rw [← Option.some.inj h9]
      rfl) rfl hdg
  have hW1 : s.WarmedH vm1 := X1.warmed
  have hm1 : (T.setVm vm1).vm.method? mk = some methM := by show vm1.method? mk = _; rw [hW1.alike.method?]; exact hmethM
  have hroom := X1.notFull (g := F0 m pc ls rest) (vars := cM.maxLocals) hml.symm hframes (by rw [hlocalsM]; show 2 * 0 + (rest.map fun v => v.category).sum + (1 + 11) ≤ _; omega)
  have hp : (T.setVm vm1).plainMethod mk := State.plainMethod.of_named (x := ⟨"java/lang/Enum", "ordinal", "()I"⟩) (by decide +kernel) (by
    have q : (s.setVm vm1).methodNamed? ⟨"java/lang/Enum", "ordinal", "()I"⟩ = some mk := by rw [State.methodNamed?_setVm hW1.alike]; exact hnamed
    exact q) hm1
  have hA := At.enter (g := F0 m pc ls rest) X1.here #[Value.ref b] hm1 hcodeM' hp
  have hfr := frames_entered (s := T.setVm vm1) (g := F0 m pc ls rest) X1.here.top (.java (entryFrame mk #[Value.ref b] cM.maxLocals))
  have hbk := setFrames_entered (s := T.setVm vm1) (g := F0 m pc ls rest) X1.here.top (.java (entryFrame mk #[Value.ref b] cM.maxLocals))
  have hownE : s.vm.findClass "java/lang/Enum" = some mk.cls := findClass_of_methodNamed hnamed
  obtain ⟨ci', cfl, k', i', f', hi', hlinks, hright⟩ := Cond.fieldLink_spec hownE hfl e.platform hpl
  cases h1.symm.trans hi'
  obtain ⟨hk, hf2⟩ := State.fieldFound?_spec h1
  obtain ⟨vm2, hgives, hW2, hready, hfi⟩ := State.fieldEntry (e := e) X1.warmed hlinks hright hk hf2
  have X2 := X1.noted hW2
  obtain ⟨t, a1, b1⟩ := kk ((T.setVm vm1).setVm vm2) rfl X2
  refine ⟨t, hstep1 _ fun acts => ?_, b1⟩
  rw [doInvoke_enter (g := F0 m pc ls rest) X1.here.top acts hm1 hcodeM' hlockM hroom]
  rw [hlocalsM] at hA hfr hbk ⊢
  have hvm : (((T.setVm vm1).setTop (F0 m pc ls rest)).pushFrame (.java (entryFrame mk #[Value.ref b] 1))).vm = vm1 := rfl
  have hhp : (((T.setVm vm1).setTop (F0 m pc ls rest)).pushFrame (.java (entryFrame mk #[Value.ref b] 1))).heap = T.heap := rfl
  generalize hU : ((T.setVm vm1).setTop (F0 m pc ls rest)).pushFrame (.java (entryFrame mk #[Value.ref b] 1)) = U at hA hfr hbk hvm hhp
  show Steps p.tables e below (U.setTop { method := mk, pc := 0, locals := #[.val (.ref b)], stack := [], locked := none }) t
  jvm_step hA [hx, hbytesM, d_ord_0, Value.isRef]
  have hA2 : At (U.setVm vm2) mk cM below := hA.setVm (by rw [hvm]; exact hW1.alike.symm.trans hW2.alike)
  have hg9 : (Jvm.resolveField mk.cls 7).Gives e.toSetting U.vm (.ok (cf, fi)) vm2 := by rw [hvm]; exact hgives
  have hsz9 : vm2.classes.size ≤ U.vm.classes.size := by
    rw [hvm]
    exact Nat.le_of_eq (hW1.alike.symm.trans hW2.alike).2.1
  jvm_step hA [hx, hbytesM, d_ord_1, getfield.wp_cold (e := e) (s := U) (f := { method := mk, pc := 1, locals := #[.val (.ref b)], stack := [.ref b], locked := none }) hA.top hg9 hready hfi hsz9,
    getfield.wp_ready (e := e) (s := U.setVm vm2) (f := { method := mk, pc := 1, locals := #[.val (.ref b)], stack := [.ref b], locked := none }) (rest := []) hA2.top hready h2 rfl (show (U.setVm vm2).heap[b]? = some cell by show U.heap[b]? = _; rw [hhp]; exact h3) h4 h5]
  have hm2 : (U.setVm vm2).vm.method? mk = some methM := by show vm2.method? mk = _; rw [hW2.alike.method?]; exact hmethM
  jvm_step hA2 [hx, hbytesM, d_ord_4, hm2, hretM, narrow]
  refine ⟨_, State.topJava?_setTop' _ hA2.top, v, [], rfl, methM, hm2, .int, hretM, fun acts2 => ?_⟩
  rw [doReturn_leave (g := F0 m pc ls rest) (u := U.setVm vm2) (v := some (.int v)) (meth := methM) (cg := c) (ig := .invokevirtual index) (len := 3) acts2 (show (U.setVm vm2).frames = _ from hfr) hm2 hlockM rfl rfl (by have h9 := X2.here.code; rw [State.code?_eq] at h9 ⊢; exact h9) hdg]
  have e9 : (U.setVm vm2).setFrames (.java (F0 m pc ls rest) :: (T.setVm vm1).frames.tail) = ((T.setVm vm1).setVm vm2).setTop (F0 m pc ls rest) := congrArg (fun z => State.setVm z vm2) hbk
  rw [e9, State.setTop_setTop]
  exact a1
/-- kind.ordinal() -/
theorem g_ordinal {ret : Option FieldType} {f n : Nat} {cy : Nat → ClassId} {D : va_G} {ρ : Nat → Nat} {K : gKd} (X : gX "TermDesk$Clerk" cc nL ret f n R cells slots cy D ρ A p s m args meth c) (X3 : gX3 A K s s.heap) (hS : va_S A s.heap H locs) {i : Nat} (hi : i < 9) (hf : 1 ≤ f) (hn : 40 ≤ n) (hsz : ls.size = nL) (hcat : (rest.map fun v => v.category).sum ≤ 8) (hdg : decode cc pc = .ok (.invokevirtual 145, 3))
    (kk : W p l e R s m args below meth c H locs cells slots Q (F0 m (pc + 3) ls (.int (nI i) :: rest))) : W p l e R s m args below meth c H locs cells slots Q (F0 m pc ls (.ref (K.2.2.1 i) :: rest)) := by
  obtain ⟨hx, hb, hml, hr, hown, hts, hns, hK, hD, ⟨hr1, hr2, hr3, hr4⟩, -⟩ := X
  obtain ⟨c1, -, -, -, c5⟩ := X3.2.2.1 i hi
  exact or_W (A := A) hx hb (hml.trans hsz.symm) hown (hts _ (by decide +kernel)) (hts _ (by decide +kernel)) (hts _ (by decide +kernel)) (hts _ (by decide +kernel)) (hts _ (by decide +kernel)) (hts _ (by decide +kernel)) (c1.kept hS.2.1) (c5.kept hS.2.1) (Nat.le_trans hf hr1) (by omega) hdg kk
end OR
