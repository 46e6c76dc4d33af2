/-! Catching: a call of a method that throws, in a method with handlers; calls of methods that read alone; contracts of the law's wrappers. -/
theorem gSame_old {s t : State} {L : List Loc} {k n : Nat} (h : s.sameButNew t L k n) (hL : L = []) : ∀ q : Nat, q < s.heap.size → t.heap[q]? = s.heap[q]? := by
  intro q hq
  subst hL
  obtain ⟨ce, hce⟩ : ∃ ce, s.heap[q]? = some ce := ⟨_, Array.getElem?_eq_getElem hq⟩
  obtain ⟨c', h1, h2, h3, h4⟩ := h.2.2.2.2.2 q ce hce
  have e : c'.slots = ce.slots := by
    apply Array.ext_getElem?
    intro i
    exact h4 i (by simp)
  rw [h1, hce, h2, e]
section GC
variable {p : Program} {l : Launch} {e : Env} {R : Room} {s : State} {m : MethodId} {args : Array Value} {below : List Frame} {meth : Method} {c : Code} {H : Heap} {locs : List Loc} {cells slots : Nat} {Q : State → Prop}
variable {cc : ByteArray} {pc nL : Nat} {ls : Array Slot} {rest : List Value} {D : va_G} {A : Nat → Prop} {a : Nat} {cy : Nat → ClassId} {ρ : Nat → Nat} {u : gSt} {own : String} {ret : Option FieldType} {f n : Nat}
/-- where an exception of the class cls, thrown at pc, is caught -/
def gHnd (l : Launch) (e : Env) (s : State) (m : MethodId) (meth : Method) (c : Code) (pc hpc : Nat) (cls : String) : Prop := ∀ (S : State) (g : JFrame) (x : Addr) (ce : Cell), l.admits e → S.vm.method? m = some meth → meth.code = some c → s.WarmedH S.vm → g.method = m → g.pc = pc → S.heap[x]? = some ce → ce.vm = .none → s.vm.findClass cls = some ce.cls → ∃ vm', s.WarmedH vm' ∧ gFind e S g x (.found hpc) vm'
theorem g_tlen {l1 : List ExceptionTableEntry} {a1 : Nat × Nat × Nat × Nat} {r : List (Nat × Nat × Nat × Nat)} (h : l1.map (fun h => (h.startPc, h.endPc, h.handlerPc, h.catchType)) = a1 :: r) : ∃ (x : ExceptionTableEntry) (t : List ExceptionTableEntry), l1 = x :: t ∧ (x.startPc, x.endPc, x.handlerPc, x.catchType) = a1 ∧ t.map (fun h => (h.startPc, h.endPc, h.handlerPc, h.catchType)) = r := by
  cases l1 with
  | nil => cases h
  | cons x t =>
    have h1 := List.cons.inj h
    exact ⟨x, t, rfl, h1.1, h1.2⟩
theorem g_hnd1 (X : gX own cc nL ret f n R cells slots cy D ρ A p s m args meth c) (X2 : gX2 A s) {sp ep hp ct : Nat} {tl : List (Nat × Nat × Nat × Nat)} {cls : String} (hx : c.exceptionTable.toList.map (fun h => (h.startPc, h.endPc, h.handlerPc, h.catchType)) = (sp, ep, hp, ct) :: tl) (h1 : sp ≤ pc) (h2 : pc < ep) (h0 : ct ≠ 0) (hl : Cond.classLink own ct cls ∈ gWs) (hcast : Cond.castable cls cls ∈ gFs) : gHnd l e s m meth c pc hp cls := by
  intro S g x ce ha hm hc hW hg hpc hce hvm hcls
  obtain ⟨-, -, -, -, hown, hts, -⟩ := X
  obtain ⟨x1, -⟩ := X2
  have hpl : e.platform.magicAccessors = ({} : Platform).magicAccessors := by rw [ha.platform]
  obtain ⟨y, t, hy, hy1, -⟩ := g_tlen hx
  cases hy1
  obtain ⟨c', hc', hcl⟩ := Cond.classLink_spec hown (hts _ hl) e.platform hpl
  cases hcls.symm.trans hc'
  obtain ⟨c3, c4, hc3, hc4, hasg⟩ := Cond.castable_spec (va_Nw.use (A := args) (gFs_tab hcast) (x1 _ hcast))
  cases hc3.symm.trans hcls
  cases hc4.symm.trans hcls
  obtain ⟨dk, _, _, kt, hd, _, _, _, _, hkt, _, hopen⟩ := hcl.here
  obtain ⟨k0, hk0⟩ := Vm.classAt_of_findClass hcls
  obtain ⟨k1, hk1, -⟩ := hW.alike.2.2 _ _ hk0
  subst hg
  subst hpc
  refine ⟨_, hW.noted hd hopen (State.rightAt_cls hcl), fun Q E d acts => ?_⟩
  rw [Jvm.W.findHandler_eq hm hc, hy]
  exact gGo_yes (by simp [h1, h2]) h0 (hW.classLinks hcl) hce (fun k h => by rw [hvm] at h; cases h) ⟨k1, hk1⟩ ⟨k1, hk1⟩ (by rw [hW.alike.assignable]; exact hasg)
theorem g_hnd2 (X : gX own cc nL ret f n R cells slots cy D ρ A p s m args meth c) (X2 : gX2 A s) {sp ep hp ct sp' ep' hp' ct' : Nat} {tl : List (Nat × Nat × Nat × Nat)} (hx : c.exceptionTable.toList.map (fun h => (h.startPc, h.endPc, h.handlerPc, h.catchType)) = (sp', ep', hp', ct') :: (sp, ep, hp, ct) :: tl) (h1 : sp ≤ pc) (h2 : pc < ep) (h0 : ct ≠ 0) (h1' : sp' ≤ pc) (h2' : pc < ep') (h0' : ct' ≠ 0) (hl : Cond.classLink own ct "java/lang/IllegalArgumentException" ∈ gWs) (hl' : Cond.classLink own ct' "java/lang/IndexOutOfBoundsException" ∈ gWs) (hcast : Cond.castable "java/lang/IllegalArgumentException" "java/lang/IllegalArgumentException" ∈ gFs) : gHnd l e s m meth c pc hp "java/lang/IllegalArgumentException" := by
  intro S g x ce ha hm hc hW hg hpc hce hvm hcls
  obtain ⟨-, -, -, -, hown, hts, -⟩ := X
  obtain ⟨x1, -, -, -, x5⟩ := X2
  have hpl : e.platform.magicAccessors = ({} : Platform).magicAccessors := by rw [ha.platform]
  obtain ⟨y', t', hy', hy1', hx2⟩ := g_tlen hx
  obtain ⟨y, t, hy, hy1, -⟩ := g_tlen hx2
  cases hy1
  cases hy1'
  obtain ⟨c', hc', hcl⟩ := Cond.classLink_spec hown (hts _ hl) e.platform hpl
  cases hcls.symm.trans hc'
  obtain ⟨c9, hc9, hcl9⟩ := Cond.classLink_spec hown (hts _ hl') e.platform hpl
  obtain ⟨c3, c4, hc3, hc4, hasg⟩ := Cond.castable_spec (va_Nw.use (A := args) (gFs_tab hcast) (x1 _ hcast))
  cases hc3.symm.trans hcls
  cases hc4.symm.trans hcls
  obtain ⟨n1, n2, hn1, hn2, hno⟩ := x5
  cases hn1.symm.trans hcls
  cases hn2.symm.trans hc9
  obtain ⟨dk, _, _, kt, hd, _, _, _, _, hkt, _, hopen⟩ := hcl.here
  obtain ⟨dk9, _, _, kt9, hd9, _, _, _, _, hkt9, _, hopen9⟩ := hcl9.here
  obtain ⟨k0, hk0⟩ := Vm.classAt_of_findClass hcls
  obtain ⟨k1, hk1, -⟩ := hW.alike.2.2 _ _ hk0
  obtain ⟨k9, hk9, -⟩ := hW.alike.2.2 _ _ hkt9
  subst hg
  subst hpc
  have hW1 := hW.noted hd9 hopen9 (State.rightAt_cls hcl9)
  obtain ⟨k2, hk2, -⟩ := hW1.alike.2.2 _ _ hk0
  refine ⟨_, hW1.noted hd hopen (State.rightAt_cls hcl), fun Q E d acts => ?_⟩
  rw [Jvm.W.findHandler_eq hm hc, hy', hy]
  rw [gGo_no (cT := c9) (cell := ce) (by simp [h1', h2']) h0' (hW.classLinks hcl9) hce (fun k h => by rw [hvm] at h; cases h) ⟨k1, hk1⟩ ⟨k9, hk9⟩ (by rw [hW.alike.assignable]; exact hno)]
  exact gGo_yes (S := S.setVm _) (by simp [h1, h2]) h0 (State.WarmedH.classLinks hW1 hcl) hce (fun k h => by rw [hvm] at h; cases h) ⟨k2, hk2⟩ ⟨k2, hk2⟩ ((hW1.alike.assignable _ _).trans hasg)
set_option maxHeartbeats 2000000 in
theorem g_catch (X : gX own cc nL ret f n R cells slots cy D ρ A p s m args meth c) (X2 : gX2 A s) (hP : va_P D gCl (gW cy ρ u) H) (hS : va_S A s.heap H locs) {y : MethodName} {bytes : ByteArray} {maxL idx k ci f' n' hpc : Nat} {ret' : Option FieldType} {As st : List Value} {cls : String}
    (hM : gCtT l y bytes maxL ret' f' n' cy D ρ A (.ref (ρ a) :: As) u cls) (hy : gMi y bytes maxL ret' k ci) (hl : Cond.methodLink own idx y ∈ gWs) (ha : gK a = ci) (hk : As.length = k) (hf : f' + 1 ≤ f) (hn : 8 + (maxL + 11) + n' ≤ n) (hc1 : cells + 1 ≤ R.cells) (hc2 : slots + 6 ≤ R.slots) (hsz : ls.size = nL) (hst : st = As.reverse ++ .ref (ρ a) :: rest) (hcat : (rest.map fun v => v.category).sum ≤ 8) (hdg : decode cc pc = .ok (.invokevirtual idx, 3)) (hfind : gHnd l e s m meth c pc hpc cls)
    (kk : ∀ (H1 : Heap) (x : Nat), va_P D gCl (gW cy ρ u) H1 → va_S A s.heap H1 locs → W p l e R s m args below meth c H1 locs (cells + 1) (slots + 6) Q (F0 m hpc ls [.ref x])) :
    W p l e R s m args below meth c H locs cells slots Q (F0 m pc ls st) := by
  have X' := X
  obtain ⟨hx, hb, hml, hr, hown, hts, hns, hK, hD, ⟨hr1, hr2, hr3, hr4⟩, hlk⟩ := X
  obtain ⟨hcode, hins, hsel, hini, hd, Tt, N, hc⟩ := hy
  have he := g_obj (cy := cy) (ρ := ρ) (u := u) ha (by have := g_cl hc; omega)
  obtain ⟨cellB, hcB, hoB, hclB⟩ := va_recv hK hP hc he
  intro T hT Xs
  subst hb
  obtain ⟨mk, methM, hnamed, hmethM, hstM, habM⟩ := Cond.instanceMethod_spec (hts _ hins)
  obtain ⟨methM', cM, hmethM', hcM, -, hlM, -, -, -, hsigM⟩ := Cond.code_spec hnamed (hts _ hcode)
  cases hmethM.symm.trans hmethM'
  obtain ⟨c2, r2, m2, q1, q2, q3, q4, kP, hkP, hkPi⟩ := Cond.selects_spec (hts _ hsel)
  cases hclB.symm.trans q1
  cases (State.methodFound?_of_named hnamed ⟨hd.1, hd.2.1⟩).symm.trans q2
  cases hnamed.symm.trans q3
  have hselP : selectMethod e.platform s.vm cellB.cls mk = .method mk := by rw [Launch.admits_selectMethod Xs.admits]; exact q4
  have hlen : As.length = methM.sig.parameters.length := by
    have h2 := hd.2.2
    rw [hsigM] at h2
    rw [hk]
    exact (Option.some.inj h2).symm
  obtain ⟨vm₁, X₁, hstep₁⟩ := Xs.invokevirtual hx hown (hts _ hl) hnamed hmethM hstM hkP hkPi ⟨hd.1, hd.2.1⟩ (a := ρ a) (cell := cellB) (by rw [hT]; exact hcB) (fun z h => by rw [h] at hoB; cases hoB) hselP hmethM habM hkP hkPi (g := F0 m pc ls st) rfl (argsL := As) (rest := rest) hlen hst hdg
  have hAt : At (T.setVm vm₁) m c below := X₁.here
  have hnamed₁ : (T.setVm vm₁).methodNamed? y = some mk := X₁.named hnamed
  have hcode₁ := word_at (a' := (Value.ref (ρ a) :: As).toArray) X₁.warmed (gWs_good hcode) (hts _ hcode)
  have hini₁ := word_at (a' := (Value.ref (ρ a) :: As).toArray) X₁.warmed (gWs_good hini) (hts _ hini)
  obtain ⟨methY, cY, hmY, hcY, -, hlY, -, -, -, -⟩ := Cond.code_spec hnamed₁ hcode₁
  obtain ⟨kY, hkY, -⟩ := className_of_methodNamed hnamed₁
  have hinitY : kY.init = .initialized := Cond.initialized_spec (findClass_of_methodNamed hnamed₁) hkY hini₁
  have hpre1 : (headSpec (Cond.code y bytes maxL ret' :: gWs) (gRm1 f' n')).pre.before (Value.ref (ρ a) :: As).toArray (T.setVm vm₁) = true := atoms_intro fun w hw => word_at X₁.warmed (gWs_in hcode w hw).2 (hts _ (gWs_in hcode w hw).1)
  have hroom := X₁.room_calling (g := F0 m pc ls rest) (m' := mk) (args' := (Value.ref (ρ a) :: As).toArray) (R' := gRm1 f' n') (hsz.trans hml.symm) hmY hcY (Nat.le_trans hf hr1) (by
    have h9 := lv_room (m := m) (pc := pc) (ls := ls) (rest := rest) hcat
    have h8 : 2 * (F0 m pc ls rest).monitorRoom + ((F0 m pc ls rest).stack.map fun v => v.category).sum ≤ 8 := h9
    have h7 : (gRm1 f' n').locals = n' := rfl
    rw [hlY, h7]
    omega) hc1 hc2
  have happ : (headSpec (Cond.code y bytes maxL ret' :: gWs) (gRm1 f' n')).appliesLoose y e.platform ((T.setVm vm₁).calling (F0 m pc ls rest) mk (Value.ref (ρ a) :: As).toArray) = true := Spec.appliesLoose_calling (g := F0 m pc ls rest) hAt hdg hnamed₁ hkY hinitY hroom hpre1
  have hTv : (T.setVm vm₁).heap = H := hT
  have hBpre := gB_pre X' hP hTv X₁.warmed
  have hX2pre := gX2_to X2 hS hTv X₁.warmed
  have hcall := gB_blind (a := (Value.ref (ρ a) :: As).toArray) (U := T.setVm vm₁) (g := F0 m pc ls rest) (mk := mk) (av := .ref (ρ a) :: As) ⟨rfl, hBpre⟩
  obtain ⟨mid, hmid⟩ := hAt.above
  have hfr : ((T.setVm vm₁).setTop (F0 m pc ls rest)).frames = (.java (F0 m pc ls rest) :: mid) ++ below := by rw [State.frames_setTop' _ hAt.top, hmid]; rfl
  obtain ⟨o, s₂, hsteps, -, hend, hq⟩ := Steps.callFree hM p X₁.admits X₁.cas X₁.clock (acts := []) hfr happ ⟨rfl, hcall.2, gX2_calling hX2pre⟩ trivial
  obtain ⟨x, rfl, hW2, hsame, ce, hce, hcev, hcecls⟩ := hq
  rw [State.frames_setTop' _ hAt.top] at hend
  have htail : (T.setVm vm₁).frames.tail = below := X₁.tail
  rw [htail] at hend
  obtain ⟨T', XT, hW', hsm', ht⟩ := X₁.outOfThrown (g := F0 m pc ls rest) rfl (mk := mk) (a := (Value.ref (ρ a) :: As).toArray) hend hW2 hsame
  have hheap : s₂.heap = T'.heap := by rw [ht]; exact Stand.throwing_heap T' _ x
  have hold : ∀ q : Nat, q < H.size → T'.heap[q]? = H[q]? := fun q hq => by
    have h1 := gSame_old hsame rfl q (by show q < (T.setVm vm₁).heap.size; rw [hTv]; exact hq)
    have h2 : s₂.heap[q]? = (T.setVm vm₁).heap[q]? := h1
    rw [hheap, hTv] at h2
    exact h2
  have hszle : H.size ≤ T'.heap.size := by
    have h1 : (T.setVm vm₁).heap.size ≤ s₂.heap.size := hsame.2.1
    rw [hheap, hTv] at h1
    exact h1
  have hP1 : va_P D gCl (gW cy ρ u) T'.heap := hP.kept (fun k9 z hz => hold z.1 ((hP k9 z hz).lt))
  have hS1 : va_S A s.heap T'.heap locs := ⟨Nat.le_trans hS.1 hszle, fun q h1 h2 => (hold q (Nat.lt_of_lt_of_le h1 hS.1)).trans (hS.2.1 q h1 h2), hS.2.2⟩
  have hcls' : s.vm.findClass cls = some ce.cls := by
    have h1 : (T.setVm vm₁).vm.findClass cls = some ce.cls := hcecls
    rw [← X₁.warmed.alike.findClass]
    exact h1
  obtain ⟨vm', hWv, hfnd⟩ := hfind ((T'.setTop (F0 m pc ls rest)).pushFrame (.throwing x)) (F0 m pc ls rest) x ce XT.admits (by rw [Stand.throwing_vm]; exact XT.method') XT.code (by rw [Stand.throwing_vm]; exact XT.warmed) rfl rfl (by rw [Stand.throwing_heap, ← hheap]; exact hce) hcev hcls'
  have XV := XT.noted hWv
  rw [List.append_nil] at XV
  obtain ⟨t, a1, b1⟩ := kk T'.heap x hP1 hS1 (T'.setVm vm') rfl XV
  refine ⟨t, hstep₁ _ (fun acts => ?_), b1⟩
  rw [doInvoke_state]
  refine hsteps.trans ?_
  rw [ht]
  exact gFind_steps (g := F0 m pc ls rest) XT.here hfnd a1
/-! methods that read alone -/
def gPQ (r : Int32) : Array Value → State → Outcome → State → Prop := fun _ st o t => o = .returned (some (.int r)) ∧ t.heap = st.heap
def gCtP (l : Launch) (y : MethodName) (cc : ByteArray) (nL : Nat) (ret : Option FieldType) (f n : Nat) (cy : Nat → ClassId) (D : va_G) (ρ : Nat → Nat) (av : List Value) (u : gSt) (r : Int32) : Prop :=
  Met l y (.code y cc nL ret :: gWs) (gRm f n) (va_Pc av (gB cy D ρ u)) (gPQ r) 0 0 (fun _ => False)
theorem g_callP (X : gX own cc nL ret f n R cells slots cy D ρ A p s m args meth c) (hP : va_P D gCl (gW cy ρ u) H) {y : MethodName} {bytes : ByteArray} {maxL idx k ci f' n' : Nat} {ret' : Option FieldType} {As st : List Value} {r : Int32}
    (hM : gCtP l y bytes maxL ret' f' n' cy D ρ (.ref (ρ a) :: As) u r) (hy : gMi y bytes maxL ret' k ci) (hl : gMk own idx y) (ha : gK a = ci) (hk : As.length = k) (hf : f' + 1 ≤ f) (hn : 8 + (maxL + 11) + n' ≤ n) (hsz : ls.size = nL) (hst : st = As.reverse ++ .ref (ρ a) :: rest) (hcat : (rest.map fun v => v.category).sum ≤ 8) (hdg : decode cc pc = .ok (.invokevirtual idx, 3))
    (kk : W p l e R s m args below meth c H locs cells slots Q (F0 m (pc + 3) ls (.int r :: rest))) : W p l e R s m args below meth c H locs cells slots Q (F0 m pc ls st) := by
  have X' := X
  obtain ⟨hx, hb, hml, hr, hown, hts, hns, hK, hD, ⟨hr1, hr2, hr3, hr4⟩, -⟩ := X
  obtain ⟨hcode, hins, hsel, hini, hd, T, N, hc⟩ := hy
  have he := g_obj (cy := cy) (ρ := ρ) (u := u) ha (by have := g_cl hc; omega)
  have hrc := va_recv hK hP hc he
  have hpre : PreV s H y.cls (ρ a) (va_Pc (.ref (ρ a) :: As) (gB cy D ρ u)) As := ⟨gB_blind, hrc, fun U hU hW => ⟨rfl, gB_pre X' hP hU hW⟩⟩
  have hroom : (gRm f' n').frames + 1 ≤ R.frames ∧ 8 + (maxL + 11) + (gRm f' n').locals ≤ R.locals := ⟨Nat.le_trans hf hr1, Nat.le_trans hn hr2⟩
  have hrun : va_Run p l e R s m args below meth c H locs cells slots 0 0 (F0 m pc ls st) rest (gPQ r (Value.ref (ρ a) :: As).toArray) (fun _ => False) := by
    rcases hl with hl | ⟨host, hl⟩
    · exact va_runV (Ts := gWs) (rm := gRm f' n') (n := k) ⟨hx, hb, hml, hown, hts⟩ hM ⟨callB_of k hts (gWs_in hcode) rfl rfl rfl (hts _ hini) (hts _ hl) hd hroom, hts _ hins, hts _ hsel⟩ hpre rfl hk hsz hst (lv_room hcat) hdg ⟨hr3, hr4⟩
    · exact va_runVN (Ts := gWs) (rm := gRm f' n') (n := k) ⟨hx, hb, hml, hown, hts⟩ hM ⟨va_cnB k hts (gWs_in hcode) rfl rfl rfl (hns _ hl) (hts _ hini) hd hroom, hts _ hins, hts _ hsel⟩ hpre rfl hk hsz hst (lv_room hcat) hdg ⟨hr3, hr4⟩
  intro T1 hT Xs
  obtain ⟨v, st₀, t, T', L, h0, XT, hL, e1, e2, ⟨ho, hh⟩, go⟩ := hrun T1 hT Xs
  have hL0 : L = [] := by
    cases L with
    | nil => rfl
    | cons q L => exact absurd (hL q List.mem_cons_self) id
  subst hL0
  rw [List.append_nil] at XT
  cases ho
  obtain ⟨t1, a1, b1⟩ := kk T' (by rw [e1, hh, h0]) XT
  exact ⟨t1, go t1 a1, b1⟩
theorem g_zretP (X : gX own cc nL (some .boolean) f n R cells slots cy D ρ A p s m args meth c) {v : Int32} (hz : gZ v = true) (hdg : decode cc pc = .ok (.ireturn, 1)) : W p l e R s m args below meth c s.heap [] cells slots (MQ below (gPQ v) args s cells slots (fun _ => False)) (F0 m pc ls [.int v]) := by
  obtain ⟨hx, hb, hml, hr, hown, hts, hns, hK, hD, -, hlk⟩ := X
  have hn : narrow .boolean (.int v) = .int v := by
    rcases gZ_of hz with rfl | rfl <;> decide +kernel
  exact W.zret hx hb hr hn (fun t ht hW => ⟨rfl, ht⟩) (fun q hq => by cases hq) hdg hlk
theorem g_iretP (X : gX own cc nL (some .int) f n R cells slots cy D ρ A p s m args meth c) {v : Int32} (hdg : decode cc pc = .ok (.ireturn, 1)) : W p l e R s m args below meth c s.heap [] cells slots (MQ below (gPQ v) args s cells slots (fun _ => False)) (F0 m pc ls [.int v]) := by
  obtain ⟨hx, hb, hml, hr, hown, hts, hns, hK, hD, -, hlk⟩ := X
  exact W.iret hx hb hr (fun t ht hW => ⟨rfl, ht⟩) (fun q hq => by cases hq) hdg hlk
theorem g_metP {y : MethodName} {maxL : Nat} {r : Int32} {av : List Value} (hy : plainName y.cls = true) (hD : gD ρ A) (hav : (lg_sl av).length ≤ maxL)
    (body : ∀ (p : Program) (e : Env) (s : State) (m : MethodId) (below : List Frame) (meth : Method) (c : Code) (ls : Array Slot), gX y.cls cc maxL ret f n (gRm f n) 0 0 cy D ρ A p s m av.toArray meth c → lv_has ls maxL (lv_args 0 av) → va_P D gCl (gW cy ρ u) s.heap → W p l e (gRm f n) s m av.toArray below meth c s.heap [] 0 0 (MQ below (gPQ r) av.toArray s 0 0 (fun _ => False)) (F0 m 0 ls [])) :
    gCtP l y cc maxL ret f n cy D ρ av u r := by
  refine Met.ofW (cc := cc) (maxL := maxL) (ret := ret) hy rfl ?_
  intro p e s m args below meth c s₁ B hml hv
  obtain ⟨rfl, hP, hK, hns⟩ := hv
  have hts := atoms_spec (ws := .code y cc maxL ret :: gWs) B.pre
  have hl := lv_entry av (n := maxL) hav
  rw [lg_entry_eq]
  exact body p e s m below meth c _ ⟨B.exec, B.bytes, hml, B.returns, findClass_of_methodNamed B.named, fun w hw => hts w (List.mem_cons_of_mem _ hw), hns, hK, hD, ⟨Nat.le_refl _, Nat.le_refl _, Nat.le_refl _, Nat.le_refl _⟩, B.notSynchronized⟩ hl hP
/-! the law's wrappers -/
def gCtW (l : Launch) (y : MethodName) (cc : ByteArray) (nL : Nat) (hh : List (Nat × Nat × Nat × Nat)) (f n : Nat) (cy : Nat → ClassId) (D : va_G) (ρ : Nat → Nat) (A : Nat → Prop) (av : List Value) (u : gSt) (r : Int32) (u' : gSt) : Prop :=
  Met l y (.codeWith y cc nL (some .int) hh :: gWs) (gRm1 f n) (va_Pc av (fun U => gB cy D ρ u U ∧ gX2 A U)) (va_Qi (fun r1 v => r1 = r ∧ v = u') (fun v U => gB cy D ρ v U ∧ gX2 A U) A) 1 6 A
theorem g_iretW (X : gX own cc nL (some .int) f n R cells slots cy D ρ A p s m args meth c) (X2 : gX2 A s) (hP : va_P D gCl (gW cy ρ u) H) (hS : va_S A s.heap H locs) (hc : cells ≤ 1) (hs : slots ≤ 6) {v : Int32} (hdg : decode cc pc = .ok (.ireturn, 1)) : W p l e R s m args below meth c H locs cells slots (MQ below (va_Qi (fun r1 v1 => r1 = v ∧ v1 = u) (fun v U => gB cy D ρ v U ∧ gX2 A U) A) args s 1 6 A) (F0 m pc ls [.int v]) := by
  have X' := X
  obtain ⟨hx, hb, hml, hr, hown, hts, hns, hK, hD, -, hlk⟩ := X
  refine W.widen hc hs ?_
  exact W.iret hx hb hr (fun t ht hW => ⟨⟨v, u, rfl, ⟨rfl, rfl⟩, gB_pre X' hP ht hW, gX2_to X2 hS ht hW⟩, hS.F ht⟩) hS.2.2 hdg hlk
theorem g_metW {y : MethodName} {maxL : Nat} {hh : List (Nat × Nat × Nat × Nat)} {r : Int32} {u' : gSt} {av : List Value} (hy : plainName y.cls = true) (hD : gD ρ A) (hav : (lg_sl av).length ≤ maxL)
    (body : ∀ (p : Program) (e : Env) (s : State) (m : MethodId) (below : List Frame) (meth : Method) (c : Code) (ls : Array Slot), gX y.cls cc maxL (some .int) f n (gRm1 f n) 0 0 cy D ρ A p s m av.toArray meth c → gX2 A s → c.exceptionTable.toList.map (fun h => (h.startPc, h.endPc, h.handlerPc, h.catchType)) = hh → lv_has ls maxL (lv_args 0 av) → va_P D gCl (gW cy ρ u) s.heap → W p l e (gRm1 f n) s m av.toArray below meth c s.heap [] 0 0 (MQ below (va_Qi (fun r1 v1 => r1 = r ∧ v1 = u') (fun v U => gB cy D ρ v U ∧ gX2 A U) A) av.toArray s 1 6 A) (F0 m 0 ls [])) :
    gCtW l y cc maxL hh f n cy D ρ A av u r u' := by
  refine va_MetW (cc := cc) (maxL := maxL) (ret := some .int) (hh := hh) hy rfl ?_
  intro p e s m args below meth c s₁ B hml hv
  obtain ⟨rfl, ⟨hP, hK, hns⟩, hX2⟩ := hv
  have hts := atoms_spec (ws := .codeWith y cc maxL (some .int) hh :: gWs) B.pre
  have hl := lv_entry av (n := maxL) hav
  obtain ⟨m9, meth9, c9, hn9, h1, h2, -, -, h3, -⟩ := Cond.codeWith_spec (hts _ List.mem_cons_self)
  cases B.named.symm.trans hn9
  cases B.method.symm.trans h1
  cases (Stand.of_body B).code.symm.trans h2
  rw [lg_entry_eq]
  exact body p e s _ below _ _ _ ⟨B.exec, B.bytes, hml, B.returns, findClass_of_methodNamed B.named, fun w hw => hts w (List.mem_cons_of_mem _ hw), hns, hK, hD, ⟨Nat.le_refl _, Nat.le_refl _, Nat.zero_le _, Nat.zero_le _⟩, B.notSynchronized⟩ hX2 h3 hl hP
/-! lookupswitch of the keys 0 and 1 -/
theorem g_look (hexec : p.tables.exec = Jvm.exec) (hb : c.code = cc) {dflt o0 o1 : Int} {len : Nat} {x : Int32} {tgt : Nat} (hdg : decode cc pc = .ok (.lookupswitch dflt #[(0, o0), (1, o1)], len)) (off : Int) (ho : (x = 0 ∧ off = o0) ∨ (x = 1 ∧ off = o1) ∨ (¬ x = 0 ∧ ¬ x = 1 ∧ off = dflt)) (ht : (pc : Int) + off = (tgt : Int))
    (k : W p l e R s m args below meth c H locs cells slots Q (F0 m tgt ls rest)) : W p l e R s m args below meth c H locs cells slots Q (F0 m pc ls (.int x :: rest)) := by
  refine lv_lookup (off := off) hexec hb hdg (by simp) ?_ ht k
  rcases ho with ⟨rfl, rfl⟩ | ⟨rfl, rfl⟩ | ⟨h0, h1, rfl⟩
  · rfl
  · rfl
  · have e0 := gneI (k := 0) h0 (by decide)
    have e1 := gneI (k := 1) h1 (by decide)
    have f0 : ¬ (0 : Int) = x.toInt := fun e => e0 e.symm
    have f1 : ¬ (1 : Int) = x.toInt := fun e => e1 e.symm
    simp [Op.lookupswitch.offset, f0, f1]
end GC
