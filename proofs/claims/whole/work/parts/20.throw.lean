/-! Exceptions: a method of TermDesk that throws (contract gCtT), the law's wrappers that catch. -/
def gFs : List Cond := lw_tbl.filter (fun w => w.onTables && w.keepsFace)
theorem gFs_at (i : Nat) {w : Cond} (h : lw_tbl[i]? = some w) (hg : (w.onTables && w.keepsFace) = true) : w ∈ gFs := List.mem_filter.mpr ⟨List.mem_of_getElem? h, hg⟩
theorem gFs_tab {w : Cond} (hw : w ∈ gFs) : w.onTables = true := by
  have h1 := (List.mem_filter.mp hw).2
  simp only [Bool.and_eq_true] at h1
  exact h1.1
theorem gFs_warm {s U : State} (hW : s.WarmedH U.vm) (h : ∀ w ∈ gFs, va_Nw w s) : ∀ w ∈ gFs, va_Nw w U := fun w hw => by
  have h1 := (List.mem_filter.mp hw).2
  simp only [Bool.and_eq_true] at h1
  exact va_tabs h1.1 (rfl : (s.setVm U.vm).vm = U.vm) (Cond.before_shiftedFace (State.Shifted.of_warmed hW) w h1.2 (h w hw))
/-- a static of Throwable's: its cell is none of the world's; it holds a reference or null -/
def gZ1 (n d : String) (A : Nat → Prop) (U : State) (H : Heap) : Prop := ∃ (c : ClassId) (k : Class) (i : Nat) (f : Field) (a : Nat) (cell : Cell) (v : Value), U.vm.findClass "java/lang/Throwable" = some c ∧ U.fieldFound? "java/lang/Throwable" n d = some (c, k, i, f) ∧ f.isStatic = true ∧ k.statics = some a ∧ H[a]? = some cell ∧ cell.vm.isStatics = true ∧ cell.cls = c ∧ f.slot < cell.slots.size ∧ k.staticTypes[f.slot]? = some f.type ∧ cell.slots[f.slot]? = some v ∧ v.isRef = true ∧ ¬ A a
theorem gZ1.moved {n d : String} {A : Nat → Prop} {u U : State} {H : Heap} (hvm : u.vm.Alike U.vm) (h : gZ1 n d A u H) : gZ1 n d A U H := by
  obtain ⟨c, k, i, f, a, cell, v, h1, h2, h3, h4, h5, h6, h7, h8, h9, h10, h11, h12⟩ := h
  obtain ⟨k', hi', he⟩ := State.fieldFound?_setVm hvm h2
  exact ⟨c, k', i, f, a, cell, v, by rw [hvm.findClass]; exact h1, hi', h3, by rw [he]; exact h4, h5, h6, h7, h8, by rw [he]; exact h9, h10, h11, h12⟩
theorem gZ1.kept {n d : String} {A : Nat → Prop} {U : State} {H H1 : Heap} (h : gZ1 n d A U H) (hq : ∀ a : Nat, a < H.size → ¬ A a → H1[a]? = H[a]?) : gZ1 n d A U H1 := by
  obtain ⟨c, k, i, f, a, cell, v, h1, h2, h3, h4, h5, h6⟩ := h
  exact ⟨c, k, i, f, a, cell, v, h1, h2, h3, h4, by rw [hq a (Array.getElem?_eq_some_iff.mp h5).1 h6.2.2.2.2.2.2]; exact h5, h6⟩
theorem gZ1.lays {n d : String} {A : Nat → Prop} {U : State} {args : Array Value} (h : gZ1 n d A U U.heap) : (Cond.laysStatic "java/lang/Throwable" n d).before args U = true := by
  obtain ⟨c, k, i, f, a, cell, v, h1, h2, h3, h4, h5, h6, h7, h8, h9, h10, h11, h12⟩ := h
  exact Cond.laysStatic_of h1 h2 h3 h4 h5 h6 h7 h8 h9
theorem gZ1.isRef {n d : String} {A : Nat → Prop} {U : State} {args : Array Value} (h : gZ1 n d A U U.heap) : (Cond.isRef (.static "java/lang/Throwable" n d)).before args U = true := by
  obtain ⟨c, k, i, f, a, cell, v, h1, h2, h3, h4, h5, h6, h7, h8, h9, h10, h11, h12⟩ := h
  have e : (Term.static "java/lang/Throwable" n d).eval args U none [] U = some v := by
    simp [Term.eval, State.fieldNamed?, h2, h3, h4, h5, h6, h10]
  cases v <;> first | (simp [Cond.before, Cond.holds, Cond.value, e]; done) | cases h11
/-- the texts of the exceptions: entries of TermDesk's file -/
def gStrs : List (Nat × String) := [(59, "the text would have more than 40000 bytes"), (70, "not 0 .. 20 bytes of the text"), (83, "what is not 0 or 1"), (117, "what is not 0 .. 7"), (125, "no such term"), (155, "what is not 0 .. 6"), (160, "no such term or gene"), (173, "no such gene or term"), (178, "no such value, or no such cut-off"), (191, "no such row"), (210, "what is not 0 .. 4"), (212, "no such value, or no such number of places")]
/-- what a method that may throw, or catch, asks of the state beside the world -/
def gX2 (A : Nat → Prop) (U : State) : Prop := (∀ w ∈ gFs, va_Nw w U) ∧ gZ1 "UNASSIGNED_STACK" Bundle.steD A U U.heap ∧ gZ1 "SUPPRESSED_SENTINEL" Bundle.listD A U U.heap ∧ (∀ q ∈ gStrs, ∃ a, vk_R "TermDesk" q.1 q.2 a U) ∧ va_Nc "java/lang/IllegalArgumentException" "java/lang/IndexOutOfBoundsException" U
theorem gX2_to {A : Nat → Prop} {s U : State} {H : Heap} {locs : List Loc} (h : gX2 A s) (hS : va_S A s.heap H locs) (hU : U.heap = H) (hW : s.WarmedH U.vm) : gX2 A U := by
  obtain ⟨h1, h2, h3, h4, h5⟩ := h
  refine ⟨gFs_warm hW h1, ?_, ?_, fun q hq => ?_, va_Nc.moved hW.alike h5⟩
  · rw [hU]; exact gZ1.moved hW.alike (h2.kept hS.2.1)
  · rw [hU]; exact gZ1.moved hW.alike (h3.kept hS.2.1)
  · obtain ⟨a, ha⟩ := h4 q hq
    exact ⟨a, vk_R.warm hW ha⟩
theorem gX2_calling {A : Nat → Prop} {U : State} {g : JFrame} {mk : MethodId} {a : Array Value} (h : gX2 A U) : gX2 A (U.calling g mk a) := by
  obtain ⟨h1, h2, h3, h4, h5⟩ := h
  refine ⟨fun w hw => va_Nw.same (u := U) (U := U.calling g mk a) (gFs_tab hw) rfl (h1 w hw), gZ1.moved (u := U) (U := U.calling g mk a) (Vm.Alike.refl U.vm) h2, gZ1.moved (u := U) (U := U.calling g mk a) (Vm.Alike.refl U.vm) h3, fun q hq => ?_, va_Nc.moved (u := U) (U := U.calling g mk a) (Vm.Alike.refl U.vm) h5⟩
  obtain ⟨b, hb⟩ := h4 q hq
  exact ⟨b, vk_R.same (u := U) (U := U.calling g mk a) rfl hb⟩
abbrev gRm1 (f n : Nat) : Room := { frames := f, cells := 1, slots := 6, locals := n }
def gTh (cls : String) : Array Value → State → Outcome → State → Prop := fun _ st o t => ∃ x, o = .threw x ∧ st.WarmedH t.vm ∧ st.sameButNew ({ t with vm := st.vm } : State) [] 1 6 ∧ ∃ ce, t.heap[x]? = some ce ∧ ce.vm = .none ∧ st.vm.findClass cls = some ce.cls
def gTQ (below : List Frame) (cls : String) (args : Array Value) (s : State) : State → Prop := fun t => ∃ o, t.status = .running ∧ Ended t below o ∧ gTh cls args s o t
def gCtT (l : Launch) (y : MethodName) (cc : ByteArray) (nL : Nat) (ret : Option FieldType) (f n : Nat) (cy : Nat → ClassId) (D : va_G) (ρ : Nat → Nat) (A : Nat → Prop) (av : List Value) (u : gSt) (cls : String) : Prop :=
  MetFree l y (headSpec (.code y cc nL ret :: gWs) (gRm1 f n)) (va_Pc av (fun U => gB cy D ρ u U ∧ gX2 A U)) (fun _ _ _ _ _ => True) (gTh cls)
/-- which words make a throw of a new exception of the class cls with a text -/
def gOwn (ia ic : Nat) (cls : String) : Prop := Cond.classLink "TermDesk" ia cls ∈ gWs ∧ Cond.instantiable cls 6 ∈ gWs ∧ Cond.initialized cls ∈ gWs ∧ Bundle.fit cls = true ∧ ∀ w ∈ Bundle.ownAtoms "TermDesk" ic cls ["java/lang/RuntimeException", "java/lang/Exception"], w ∈ gWs ∨ w ∈ gFs ∨ w = .laysStatic "java/lang/Throwable" "UNASSIGNED_STACK" Bundle.steD ∨ w = .laysStatic "java/lang/Throwable" "SUPPRESSED_SENTINEL" Bundle.listD ∨ w = .isRef (.static "java/lang/Throwable" "UNASSIGNED_STACK" Bundle.steD) ∨ w = .isRef (.static "java/lang/Throwable" "SUPPRESSED_SENTINEL" Bundle.listD)
section GT
variable {p : Program} {l : Launch} {e : Env} {R : Room} {s : State} {m : MethodId} {args : Array Value} {below : List Frame} {meth : Method} {c : Code} {H : Heap} {locs : List Loc} {cells slots : Nat} {Q : State → Prop}
variable {cc : ByteArray} {pc nL : Nat} {ls : Array Slot} {rest : List Value} {D : va_G} {A : Nat → Prop} {a : Nat} {cy : Nat → ClassId} {ρ : Nat → Nat} {u : gSt} {own : String} {ret : Option FieldType} {f n : Nat}
set_option maxHeartbeats 2000000 in
theorem g_thr (X : gX "TermDesk" cc nL ret f n R 0 0 cy D ρ A p s m args meth c) (X2 : gX2 A s) (hfl : l.stackTraces = false) (hex : c.exceptionTable.isEmpty = true) {ia ib ic : Nat} {cls tx : String} (hw : gOwn ia ic cls) (hstr : (ib, tx) ∈ gStrs) (hsz : ls.size = nL) (hf : 6 ≤ f) (hn : 90 ≤ n) (hR : 1 ≤ R.cells ∧ 6 ≤ R.slots)
    (d0 : decode cc pc = .ok (.new ia, 3)) (d3 : decode cc (pc + 3) = .ok (.dup, 1)) (d4 : decode cc (pc + 3 + 1) = .ok (.ldc ib, 2)) (d6 : decode cc (pc + 3 + 1 + 2) = .ok (.invokespecial ic, 3)) (d9 : decode cc (pc + 3 + 1 + 2 + 3) = .ok (.athrow, 1)) :
    W p l e R s m args below meth c s.heap [] 0 0 (gTQ below cls args s) (F0 m pc ls []) := by
  obtain ⟨hx, hb, hml, hr, hown, hts, hns, hK, hD, ⟨hr1, hr2, hr3, hr4⟩, hlk⟩ := X
  obtain ⟨x1, x2, x3, x4, x5⟩ := X2
  obtain ⟨w1, w2, w3, w4, w5⟩ := hw
  obtain ⟨str, hsr⟩ := x4 _ hstr
  refine W.newc (g := F0 m pc ls []) hx hb hown (hts _ w1) (hts _ w2) (hts _ w3) rfl d0 (by omega) (by omega) (fun cC kC h1 h2 h3 h4 => ?_)
  refine W.eq (g2 := F0 m (pc + 3) ls [.ref s.heap.size]) rfl ?_
  refine lv_dup hx hb d3 rfl ?_
  refine va_ldcS hx hb hown hsr d4 ?_
  intro T hT Xs
  have htr : e.platform.stackTraces = false := by rw [Xs.admits.platform]; exact hfl
  have hat : ∀ w ∈ Bundle.ownAtoms "TermDesk" ic cls ["java/lang/RuntimeException", "java/lang/Exception"], w.before args s = true := fun w hw => by
    rcases w5 w hw with h | h | h | h | h | h
    · exact hts w h
    · exact va_Nw.use (gFs_tab h) (x1 w h)
    · rw [h]; exact x2.lays
    · rw [h]; exact x3.lays
    · rw [h]; exact x2.isRef
    · rw [h]; exact x3.isRef
  have hempty : c.exceptionTable.toList = [] := by
    have : c.exceptionTable = #[] := Array.isEmpty_iff.mp hex
    rw [this]
  subst hb
  obtain ⟨U, st, hrun, hend, hW, hsame, ce, hce, hO⟩ := Stand.ctorThrowS Xs hx htr (own := "TermDesk") (cls := cls) (names := ["java/lang/RuntimeException", "java/lang/Exception"]) (ic := ic) hown w4 (by decide) hat (fun x hx => by cases hx) (a := s.heap.size) (cX := cC) (kX := kC) h1 h2 (by rw [hT]; simp) (Nat.le_refl _) (msg := .ref str) rfl (g := F0 m (pc + 3 + 1 + 2) ls [.ref str, .ref s.heap.size, .ref s.heap.size]) rfl (hsz.trans hml.symm) rfl rfl (rest := []) rfl d6 d9 (fun x hx => by rw [hempty] at hx; cases hx) (by show 2 + 3 < R.frames; omega) (by show 2 * 0 + (1 + 0) + (13 * (2 + 1) + 42) ≤ R.locals; omega) hlk
  refine ⟨U, st, .threw s.heap.size, hrun, hend, s.heap.size, rfl, hW, ?_, ce, hce, hO.vm, hO.cls⟩
  have h6 : s.sameButNew ({ U with vm := s.vm } : State) [] (0 + 1) (0 + 6) := hsame
  simpa using h6
theorem g_metT {y : MethodName} {maxL : Nat} {cls : String} {av : List Value} (hy : plainName y.cls = true) (hD : gD ρ A) (hav : (lg_sl av).length ≤ maxL)
    (body : ∀ (p : Program) (e : Env) (s : State) (m : MethodId) (below : List Frame) (meth : Method) (c : Code) (ls : Array Slot), gX y.cls cc maxL ret f n (gRm1 f n) 0 0 cy D ρ A p s m av.toArray meth c → gX2 A s → c.exceptionTable.isEmpty = true → lv_has ls maxL (lv_args 0 av) → va_P D gCl (gW cy ρ u) s.heap → W p l e (gRm1 f n) s m av.toArray below meth c s.heap [] 0 0 (gTQ below cls av.toArray s) (F0 m 0 ls [])) :
    gCtT l y cc maxL ret f n cy D ρ A av u cls := by
  refine MetFree.of_bodyS (code := cc) (maxLocals := maxL) (ret := ret) hy ?_ ?_
  · intro args s m h hn
    obtain ⟨meth, c, h1, h2, h3, h4, h5, h6, -, -⟩ := Cond.code_spec hn (atoms_spec (ws := .code y cc maxL ret :: gWs) h _ List.mem_cons_self)
    exact ⟨meth, c, h1, h2, h3, h4, h5, h6⟩
  · intro p e s m args below meth c s₁ B hml hv _
    obtain ⟨rfl, ⟨hP, hK, hns⟩, hX2⟩ := hv
    have hts := atoms_spec (ws := .code y cc maxL ret :: gWs) B.pre
    have hl := lv_entry av (n := maxL) hav
    have hh0 : s₁.heap = s.heap := by rw [B.state]; rfl
    have K := body p e s m below meth c _ ⟨B.exec, B.bytes, hml, B.returns, findClass_of_methodNamed B.named, fun w hw => hts w (List.mem_cons_of_mem _ hw), hns, hK, hD, ⟨Nat.le_refl _, Nat.le_refl _, Nat.zero_le _, Nat.zero_le _⟩, B.notSynchronized⟩ hX2 (B.noHandlers (hts _ List.mem_cons_self)) hl hP
    rw [← lg_entry_eq] at K
    obtain ⟨t, a1, o, b1, b2, b3⟩ := K s₁ hh0 (Stand.of_body B)
    exact ⟨t, o, a1, b1, b2, b3⟩
/-! the search for a handler that resolves its class -/
def gFind (e : Env) (S : State) (g : JFrame) (x : Addr) (h : Handler) (vm' : Vm) : Prop := ∀ (Q : Handler → Pre) (E : CtlPost) (d : Bool) (acts : List Action), wp (findHandler g x) Q E e d acts S ↔ Q h d acts (S.setVm vm')
theorem gFind_is {S : State} {x : Addr} {g : JFrame} {r : List Frame} {hpc : Nat} {vm' : Vm} (h : gFind e S g x (.found hpc) vm') : (stepThrowing e S x (.java g :: r)).Is ((S.setVm vm').setFrames (.java { g with pc := hpc, stack := [.ref x] } :: r)) [] := by
  simp only [stepThrowing, searchFrame, vmDo]
  generalize hr : Sem.go _ e false [] S = res
  obtain ⟨as, rfl, ha⟩ := Sem.eq_ok_of hr (a := Handler.found hpc) (s' := S.setVm vm') (acts' := []) (by simp [h _ _ _ _])
  exact ⟨rfl, ha⟩
theorem gFind_steps {tb : Tables} {T target : State} {g : JFrame} {x : Addr} {hpc : Nat} {vm' : Vm} (h : At T g.method c below) (hf : gFind e ((T.setTop g).pushFrame (.throwing x)) g x (.found hpc) vm')
    (hrest : Steps tb e below ((T.setVm vm').setTop { g with pc := hpc, stack := [.ref x] }) target) : Steps tb e below ((T.setTop g).pushFrame (.throwing x)) target := by
  obtain ⟨hgo, hw⟩ := h.throwing x
  refine Steps.head hgo hw ?_
  rw [stepThread_throwing (frames_entered h.top _), (gFind_is (S := (T.setTop g).pushFrame (.throwing x)) hf).1]
  obtain ⟨g₀, hg⟩ := Option.isSome_iff_exists.mp h.top
  obtain ⟨r, hr⟩ := State.topJava?_eq_some.mp hg
  have hr' : (T.setVm vm').frames = .java g₀ :: r := hr
  rw [State.setTop_of_frames _ hr'] at hrest
  have e1 : ((T.setTop g).pushFrame (.throwing x)).setVm vm' = ((T.setVm vm').setTop g).pushFrame (.throwing x) := rfl
  rw [e1, State.pushFrame, State.setFrames_setFrames, State.setTop_of_frames _ hr', State.setFrames_setFrames]
  rw [hr]
  exact hrest
theorem gGo_yes {S : State} {g : JFrame} {b : Addr} {x : ExceptionTableEntry} {t : List ExceptionTableEntry} {cT : ClassId} {cell : Cell} {Q : Handler → Pre} {E : CtlPost} {d : Bool} {acts : List Action} (hx : covers x g.pc = true) (h0 : x.catchType ≠ 0) (hl : S.vm.ClassLinks e.platform g.method.cls x.catchType cT) (hcell : S.heap[b]? = some cell) (hobj : ∀ k, cell.vm ≠ .statics k)
    (hk : ∃ k, S.vm.classes[cell.cls]? = some k) (hc : ∃ k, S.vm.classes[cT]? = some k) (hfit : S.vm.assignable cell.cls cT = true) : wp (findHandler.go g b (x :: t)) Q E e d acts S ↔ Q (.found x.handlerPc) d acts (S.setVm (S.vm.noted g.method.cls x.catchType (.cls cT))) := by
  simp only [covers] at hx
  have hop := (resolveClass_links e.toSetting hl).op (op := VmOp.resolveClass g.method.cls x.catchType) rfl
  have hal : S.vm.Alike (S.vm.noted g.method.cls x.catchType (.cls cT)) := (Vm.Alike.refl S.vm).noted _ _ _
  obtain ⟨k1, hk1⟩ := hk
  obtain ⟨k2, hk2⟩ := hc
  obtain ⟨k3, hk3, -⟩ := hal.2.2 _ _ hk1
  obtain ⟨k4, hk4, -⟩ := hal.2.2 _ _ hk2
  have hf2 : (S.vm.noted g.method.cls x.catchType (.cls cT)).assignable cell.cls cT = true := by rw [hal.assignable]; exact hfit
  simp [findHandler.go, hx, h0, hop.1, hop.2, hcell, hobj, hk3, hk4, hf2, VmOp.dirties, VmOp.acts]
theorem gGo_no {S : State} {g : JFrame} {b : Addr} {x : ExceptionTableEntry} {t : List ExceptionTableEntry} {cT : ClassId} {cell : Cell} {Q : Handler → Pre} {E : CtlPost} {d : Bool} {acts : List Action} (hx : covers x g.pc = true) (h0 : x.catchType ≠ 0) (hl : S.vm.ClassLinks e.platform g.method.cls x.catchType cT) (hcell : S.heap[b]? = some cell) (hobj : ∀ k, cell.vm ≠ .statics k)
    (hk : ∃ k, S.vm.classes[cell.cls]? = some k) (hc : ∃ k, S.vm.classes[cT]? = some k) (hfit : S.vm.assignable cell.cls cT = false) : wp (findHandler.go g b (x :: t)) Q E e d acts S ↔ wp (findHandler.go g b t) Q E e d acts (S.setVm (S.vm.noted g.method.cls x.catchType (.cls cT))) := by
  simp only [covers] at hx
  have hop := (resolveClass_links e.toSetting hl).op (op := VmOp.resolveClass g.method.cls x.catchType) rfl
  have hal : S.vm.Alike (S.vm.noted g.method.cls x.catchType (.cls cT)) := (Vm.Alike.refl S.vm).noted _ _ _
  obtain ⟨k1, hk1⟩ := hk
  obtain ⟨k2, hk2⟩ := hc
  obtain ⟨k3, hk3, -⟩ := hal.2.2 _ _ hk1
  obtain ⟨k4, hk4, -⟩ := hal.2.2 _ _ hk2
  have hf2 : (S.vm.noted g.method.cls x.catchType (.cls cT)).assignable cell.cls cT = false := by rw [hal.assignable]; exact hfit
  simp [findHandler.go, hx, h0, hop.1, hop.2, hcell, hobj, hk3, hk4, hf2, VmOp.dirties, VmOp.acts]
end GT
