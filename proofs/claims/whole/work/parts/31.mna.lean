/-! new int[800][8] -/
def gRows (cy : Nat → ClassId) (r : Nat → Nat) : va_W := (List.range 800).map (fun i => (r i, .inl (cy 22, 8, .inl (fun _ => 0))))
/-! new int[800][8], by the model's own steps -/
section MN
variable {p : Program} {l : Launch} {e : Env} {R : Room} {s : State} {m : MethodId} {args : Array Value} {below : List Frame} {meth : Method} {c : Code} {H : Heap} {locs : List Loc} {cells slots : Nat}
theorem mn_row {E : CtlPost} {d : Bool} {acts : List Action} {U : State} {cI comp : ClassId} {kI : Class} {Q : Addr → Pre} (hk : U.vm.classes[cI]? = some kI) (hkind : kI.kind = .array comp .int) (hlim : ¬ 8 > e.platform.arrayLengthLimit) (hheap : ¬ 8 * componentBytes .int > e.platform.maxHeapBytes) (h1 : U.heap.size < e.platform.maxCells) (h2 : U.slotsUsed + 8 ≤ e.platform.maxSlots) (hq : ∀ acts', Q U.heap.size d acts' (U.pushCell { cls := cI, slots := Array.replicate 8 (.int 0) })) : wp (multianewarray.make cI [8]) Q E e d acts U := by
  unfold multianewarray.make
  simp only [wp_bind', if_neg (show ¬ ((8 : Int32) < 0) by decide), wp_pure', Jvm.W.theClass]
  refine ⟨kI, hk, ?_⟩
  simp only [hkind]
  exact Jvm.W.newArray_of (howMany := 8) hk hkind hlim hheap h1 h2 rfl hq
noncomputable def mnS (cA cI : ClassId) (a : Nat) (T0 : State) : Nat → State
  | 0 => T0
  | k + 1 => ((mnS cA cI a T0 k).pushCell { cls := cI, slots := Array.replicate 8 (.int 0) }).setCell a (arrV cA 800 (fun j => if j < k + 1 then Value.ref (a + 1 + j) else Value.null))
theorem mn_set {cA : ClassId} {a k : Nat} : (arrV cA 800 (fun j => if j < k then Value.ref (a + 1 + j) else Value.null)).setSlot k (.ref (a + 1 + k)) = arrV cA 800 (fun j => if j < k + 1 then Value.ref (a + 1 + j) else Value.null) := by
  rw [arrV_store]
  congr 1
  funext j
  unfold updV
  by_cases h : j = k
  · subst h
    rw [if_pos rfl, if_pos (Nat.lt_succ_self _)]
  · rw [if_neg h]
    show (if j < k then Value.ref (a + 1 + j) else Value.null) = _
    by_cases h2 : j < k
    · rw [if_pos h2, if_pos (by omega)]
    · rw [if_neg h2, if_neg (by omega)]
theorem mn_facts {T0 : State} {cA cI : ClassId} {a : Nat} (X : Stand p l e R s m args below meth c T0 locs (cells + 1) (slots + 800)) (hz : T0.heap.size = a + 1) (ha : T0.heap[a]? = some (arrV cA 800 (fun j => if j < 0 then Value.ref (a + 1 + j) else Value.null))) : ∀ k : Nat, (mnS cA cI a T0 k).vm = T0.vm ∧ (mnS cA cI a T0 k).heap.size = a + 1 + k ∧ (mnS cA cI a T0 k).heap[a]? = some (arrV cA 800 (fun j => if j < k then Value.ref (a + 1 + j) else Value.null)) ∧ (∀ j, j < k → (mnS cA cI a T0 k).heap[a + 1 + j]? = some { cls := cI, slots := Array.replicate 8 (.int 0) }) ∧ (∀ q, q < a → (mnS cA cI a T0 k).heap[q]? = T0.heap[q]?) ∧ ∃ l2 : List Loc, (∀ q ∈ l2, q.base = a) ∧ Stand p l e R s m args below meth c (mnS cA cI a T0 k) (locs ++ l2) (cells + 1 + k) (slots + 800 + 8 * k) := by
  intro k
  induction k with
  | zero => exact ⟨rfl, hz, ha, fun j hj => absurd hj (Nat.not_lt_zero _), fun q _ => rfl, [], fun q hq => absurd hq List.not_mem_nil, by rw [List.append_nil]; exact X⟩
  | succ k ih =>
    obtain ⟨i1, i2, i3, i4, i5, l2, i6, i7⟩ := ih
    have X1 := i7.pushed { cls := cI, slots := Array.replicate 8 (.int 0) }
    have hp : ∀ q : Nat, q ≠ a + 1 + k → ((mnS cA cI a T0 k).pushCell { cls := cI, slots := Array.replicate 8 (.int 0) }).heap[q]? = (mnS cA cI a T0 k).heap[q]? := fun q hq => by
      show ((mnS cA cI a T0 k).heap.push _)[q]? = _
      rw [Array.getElem?_push, if_neg (by omega)]
    have hc1 := (hp a (by omega)).trans i3
    have X2 := X1.stored hc1 k (.ref (a + 1 + k))
    rw [mn_set] at X2
    have hzp : ((mnS cA cI a T0 k).pushCell { cls := cI, slots := Array.replicate 8 (.int 0) }).heap.size = a + 1 + k + 1 := by
      show ((mnS cA cI a T0 k).heap.push _).size = _
      rw [Array.size_push, i2]
    refine ⟨i1, ?_, ?_, ?_, ?_, l2 ++ [⟨a, k⟩], ?_, ?_⟩
    · show (State.setCell _ _ _).heap.size = _
      rw [size_setCell, hzp]
      omega
    · exact heapAt_setCell_self _ (show a < ((mnS cA cI a T0 k).pushCell { cls := cI, slots := Array.replicate 8 (.int 0) }).heap.size by rw [hzp]; omega)
    · intro j hj
      refine (heapAt_setCell_ne _ (show a ≠ a + 1 + j by omega)).trans ?_
      by_cases hjk : j = k
      · subst hjk
        show ((mnS cA cI a T0 j).heap.push _)[a + 1 + j]? = _
        rw [Array.getElem?_push, if_pos i2.symm]
      · rw [hp _ (by omega)]
        exact i4 j (by omega)
    · intro q hq
      refine (heapAt_setCell_ne _ (show a ≠ q by omega)).trans ?_
      rw [hp _ (by omega)]
      exact i5 q hq
    · intro q hq
      rcases List.mem_append.mp hq with h | h
      · exact i6 q h
      · rw [List.mem_singleton.mp h]
    · rw [List.append_assoc] at X2
      have e1 : cells + 1 + k + 1 = cells + 1 + (k + 1) := by omega
      have e2 : slots + 800 + 8 * k + (Array.replicate 8 (Value.int 0)).size = slots + 800 + 8 * (k + 1) := by rw [Array.size_replicate]; omega
      rw [← e1, ← e2]
      exact X2
theorem mn_loop {T0 : State} {cA cI comp : ClassId} {kA kI : Class} {a : Nat} (X : Stand p l e R s m args below meth c T0 locs (cells + 1) (slots + 800)) (hz : T0.heap.size = a + 1) (ha : T0.heap[a]? = some (arrV cA 800 (fun j => if j < 0 then Value.ref (a + 1 + j) else Value.null))) (hkI : T0.vm.classes[cI]? = some kI) (hkindI : kI.kind = .array comp .int) (hkA : T0.vm.classes[cA]? = some kA) (hkindA : kA.kind = .array cI (.array .int)) (hlim : ¬ 8 > e.platform.arrayLengthLimit) (hheap : ¬ 8 * componentBytes .int > e.platform.maxHeapBytes) (hc : cells + 801 ≤ R.cells) (hs : slots + 7200 ≤ R.slots) {E : CtlPost} {f : JFrame} {bd : Nat → PUnit → Sem (ForInStep PUnit)} (hbd : ∀ i u, bd i u = (do let x ← multianewarray.make cI [8]; Jvm.writeLoc a i (.ref x); Pure.pure (ForInStep.yield PUnit.unit))) {Q : PUnit → Pre} (hq : ∀ d acts, Q PUnit.unit d acts ((mnS cA cI a T0 800).setTop f)) : ∀ (n k : Nat) (d : Bool) (acts : List Action), k + n = 800 → wp (forIn (List.range' k n) PUnit.unit bd) Q E e d acts ((mnS cA cI a T0 k).setTop f) := by
  intro n
  induction n with
  | zero =>
    intro k d acts h
    obtain rfl : k = 800 := by omega
    simp only [List.range'_zero, List.forIn_nil, wp_pure']
    exact hq d acts
  | succ n ih =>
    intro k d acts h
    obtain ⟨f1, f2, f3, f4, f5, l2, f6, f7⟩ := mn_facts (cI := cI) X hz ha k
    obtain ⟨r1, r2⟩ := f7.roomAbove (a := 1) (b := 8) (by omega) (by omega)
    rw [List.range'_succ, List.forIn_cons, hbd]
    simp only [wp_bind']
    refine mn_row (kI := kI) (comp := comp) (by show (mnS cA cI a T0 k).vm.classes[cI]? = _; rw [f1]; exact hkI) hkindI hlim hheap r1 r2 (fun acts' => ?_)
    simp only [wp_bind', Jvm.W.writeLoc, wp_pure']
    refine ⟨arrV cA 800 (fun j => if j < k then Value.ref (a + 1 + j) else Value.null), ?_, (by intro h9; cases h9), (by rw [arrV_size]; omega), ?_, ?_⟩
    · show ((mnS cA cI a T0 k).heap.push _)[a]? = _
      rw [Array.getElem?_push, if_neg (by omega)]
      exact f3
    · have hkA' : (mnS cA cI a T0 k).vm.classes[cA]? = some kA := by rw [f1]; exact hkA
      show (mnS cA cI a T0 k).fitsSlot cA .none k (.ref _) = true
      simp [State.fitsSlot, State.slotType?, hkA', hkindA]
      rfl
    · have h2 := ih (k + 1) true (writeActs ⟨a, k⟩ .plain (.ref ((mnS cA cI a T0 k).setTop f).heap.size) acts') (by omega)
      have e0 : ((mnS cA cI a T0 k).setTop f).heap.size = a + 1 + k := f2
      rw [e0, mn_set]
      rw [e0] at h2
      exact h2
theorem mn_sem {U : State} {f : JFrame} {cA cI comp : ClassId} {kA kI : Class} {index : Nat} {rest : List Value} (hs0 : U.topJava?.isSome) (hr : U.vm.classReady f.method.cls index cA) (hstack : f.stack = .int 8 :: .int 800 :: rest) (X : Stand p l e R s m args below meth c (U.pushCell { cls := cA, slots := Array.replicate 800 .null }) locs (cells + 1) (slots + 800)) (hkI : U.vm.classes[cI]? = some kI) (hkindI : kI.kind = .array comp .int) (hkA : U.vm.classes[cA]? = some kA) (hkindA : kA.kind = .array cI (.array .int)) (hlim : ¬ 800 > e.platform.arrayLengthLimit) (hheap : ¬ 800 * 4 > e.platform.maxHeapBytes) (hc : cells + 801 ≤ R.cells) (hs : slots + 7200 ≤ R.slots) (hr1 : U.heap.size < e.platform.maxCells) (hr2 : U.slotsUsed + 800 ≤ e.platform.maxSlots) {E : CtlPost} {Q : Unit → Pre} (hq : ∀ d acts, Q () d acts ((mnS cA cI U.heap.size (U.pushCell { cls := cA, slots := Array.replicate 800 .null }) 800).setTop { f with stack := .ref U.heap.size :: rest })) {d : Bool} {acts : List Action} : wp (multianewarray.sem index 2) Q E e d acts (U.setTop f) := by
  have hlim8 : ¬ 8 > e.platform.arrayLengthLimit := by omega
  have hheap8 : ¬ 8 * componentBytes .int > e.platform.maxHeapBytes := by
    show ¬ 8 * 4 > e.platform.maxHeapBytes
    omega
  simp only [multianewarray.sem, wp_bind', Jvm.W.resolveClassAt_ready (State.method?_setTop f hs0) hr, Jvm.W.popN, if_neg (show ¬ (2 : Nat) = 0 by decide)]
  refine ⟨f, State.topJava?_setTop' _ hs0, [.int 800, .int 8], rest, rfl, hstack, ?_⟩
  rw [State.setTop_setTop]
  simp only [List.mapM, List.mapM.loop, wp_bind', wp_pure', List.reverse_cons, List.reverse_nil, List.nil_append, List.cons_append]
  unfold multianewarray.make
  simp only [wp_bind', if_neg (show ¬ ((800 : Int32) < 0) by decide), wp_pure', Jvm.W.theClass]
  refine ⟨kA, hkA, ?_⟩
  simp only [hkindA, wp_bind']
  refine Jvm.W.newArray_of (howMany := 800) hkA hkindA hlim hheap hr1 hr2 rfl (fun acts' => ?_)
  simp only [wp_bind', show ((800 : Int32) == 0) = false by decide, Bool.false_eq_true, if_false, wp_pure', Std.Legacy.Range.forIn_eq_forIn_range', show Std.Legacy.Range.size [:Int32.toNatClampNeg 800] = 800 by decide]
  have hz : (U.pushCell { cls := cA, slots := Array.replicate 800 .null }).heap.size = U.heap.size + 1 := size_pushCell _ _
  have ha : (U.pushCell { cls := cA, slots := Array.replicate 800 .null }).heap[U.heap.size]? = some (arrV cA 800 (fun j => if j < 0 then Value.ref (U.heap.size + 1 + j) else Value.null)) := by
    show (U.heap.push _)[U.heap.size]? = _
    rw [Array.getElem?_push_size, arrV_new]
    rfl
  obtain ⟨-, -, -, -, -, l2, -, f7⟩ := mn_facts (cI := cI) X hz ha 800
  refine mn_loop (n := 800) (k := 0) (a := U.heap.size) (kI := kI) (kA := kA) (comp := comp) X hz ha hkI hkindI hkA hkindA hlim8 hheap8 hc hs (hbd := fun i u => rfl) (hq := fun d2 acts2 => ?_) _ _ (by decide)
  simp only [wp_bind', wp_pure', Jvm.W.mark, Jvm.W.pushRef]
  refine ⟨_, State.topJava?_setTop' _ f7.here.top, ?_⟩
  rw [State.setTop_setTop]
  exact hq _ _
theorem mn_cold {E : CtlPost} {d : Bool} {acts : List Action} {Q : Unit → Pre} {f : JFrame} {U : State} {index c9 : Nat} {vm' : Vm} (hs : U.topJava?.isSome) (hg : (Jvm.resolveClass f.method.cls index).Gives e.toSetting U.vm (.ok c9) vm') (hr : vm'.classReady f.method.cls index c9) (hsz : vm'.classes.size ≤ U.vm.classes.size) (h : wp (multianewarray.sem index 2) Q E e d acts ((U.setVm vm').setTop f)) : wp (multianewarray.sem index 2) Q E e d acts (U.setTop f) := by
  have h1 : wp (multianewarray.sem index 2) Q E e d acts (U.setTop f) ↔ wp (multianewarray.sem index 2) Q E e d acts ((U.setVm vm').setTop f) := by
    simp only [multianewarray.sem, wp_bind']
    exact Jvm.W.resolveClassAt_transfer (s := U.setTop f) (State.method?_setTop f hs) hg hr hsz
  exact h1.mpr h
end MN
section MN2
variable {p : Program} {l : Launch} {e : Env} {R : Room} {s : State} {m : MethodId} {args : Array Value} {below : List Frame} {meth : Method} {c : Code} {H : Heap} {locs : List Loc} {cells slots : Nat} {Q : State → Prop}
variable {cc : ByteArray} {pc nL : Nat} {ls : Array Slot} {rest : List Value} {D : va_G} {A : Nat → Prop} {cy : Nat → ClassId} {X Y : va_W} {own : String}
theorem mn_W (hx : p.tables.exec = Jvm.exec) (hb : c.code = cc) (hown : s.vm.findClass own = some m.cls) {index : Nat} {cA cI comp : ClassId} {kA kI : Class} (hcl : (Cond.classLink own index "[[I").before args s = true) (hA : s.vm.findClass "[[I" = some cA) (hkA : s.vm.classes[cA]? = some kA) (hkindA : kA.kind = .array cI (.array .int)) (hkI : s.vm.classes[cI]? = some kI) (hkindI : kI.kind = .array comp .int) (hcells : cells + 801 ≤ R.cells) (hslots : slots + 7200 ≤ R.slots) (hdg : decode cc pc = .ok (.multianewarray index 2, 4))
    (kk : ∀ H1 : Heap, H1.size = H.size + 801 → H1[H.size]? = some (arrV cA 800 (fun j => if j < 800 then Value.ref (H.size + 1 + j) else Value.null)) → (∀ j, j < 800 → H1[H.size + 1 + j]? = some { cls := cI, slots := Array.replicate 8 (.int 0) }) → (∀ q, q < H.size → H1[q]? = H[q]?) → W p l e R s m args below meth c H1 locs (cells + 801) (slots + 7200) Q (F0 m (pc + 4) ls (.ref H.size :: rest))) (hH : s.heap.size ≤ H.size) : W p l e R s m args below meth c H locs cells slots Q (F0 m pc ls (.int 8 :: .int 800 :: rest)) := by
  intro T hT XX
  subst hT
  subst hb
  have hpl : e.platform.magicAccessors = ({} : Platform).magicAccessors := by rw [XX.admits.platform]
  obtain ⟨c9, hfc, hcl⟩ := Cond.classLink_spec hown hcl e.platform hpl
  cases hA.symm.trans hfc
  obtain ⟨hg1, hwarm1, hready1⟩ := State.classEntry (e := e) XX.warmed hcl
  generalize T.vm.noted m.cls index (.cls cA) = vm1 at hg1 hwarm1 hready1
  have hal : s.vm.Alike vm1 := hwarm1.alike
  obtain ⟨kA1, hkA1, heA⟩ := hal.2.2 _ _ hkA
  obtain ⟨kI1, hkI1, heI⟩ := hal.2.2 _ _ hkI
  have hkindA1 : kA1.kind = .array cI (.array .int) := by rw [heA]; exact hkindA
  have hkindI1 : kI1.kind = .array comp .int := by rw [heI]; exact hkindI
  have hlimit : ¬ 800 > e.platform.arrayLengthLimit := by rw [Launch.admits_arrayLengthLimit XX.admits]; omega
  have hheap : ¬ 800 * 4 > e.platform.maxHeapBytes := by rw [Launch.admits_maxHeapBytes XX.admits]; omega
  have X1 := XX.noted hwarm1
  have X2 := X1.pushed { cls := cA, slots := Array.replicate 800 .null }
  rw [show (Array.replicate 800 Value.null).size = 800 by rw [Array.size_replicate]] at X2
  obtain ⟨hr1, hr2⟩ := XX.roomAbove (a := 1) (b := 800) (by omega) (by omega)
  have hz : ((T.setVm vm1).pushCell { cls := cA, slots := Array.replicate 800 .null }).heap.size = T.heap.size + 1 := size_pushCell _ _
  have ha : ((T.setVm vm1).pushCell { cls := cA, slots := Array.replicate 800 .null }).heap[T.heap.size]? = some (arrV cA 800 (fun j => if j < 0 then Value.ref (T.heap.size + 1 + j) else Value.null)) := by
    show (T.heap.push _)[T.heap.size]? = _
    rw [Array.getElem?_push_size, arrV_new]
    rfl
  obtain ⟨-, f2, f3, f4, f5, l2, f6, f7⟩ := mn_facts (cI := cI) X2 hz ha 800
  have X3 := Stand.forget (locs := locs) f7 (fun q hq => by rw [f6 q hq]; exact hH)
  obtain ⟨t, a1, b1⟩ := kk _ (by rw [f2]) f3 f4 (fun q hq => by
    rw [f5 q hq]
    show (T.heap.push _)[q]? = _
    rw [Array.getElem?_push, if_neg (by omega)]) _ rfl (by
      have e1 : cells + 801 = cells + 1 + 800 := by omega
      have e2 : slots + 7200 = slots + 800 + 8 * 800 := by omega
      rw [e1, e2]
      exact X3)
  refine ⟨t, ?_, b1⟩
  jvm_step XX.here [hx, hdg]
  refine mn_cold (f := F0 m pc ls (.int 8 :: .int 800 :: rest)) XX.here.top hg1 hready1 (by no_record) ?_
  refine mn_sem (f := F0 m pc ls (.int 8 :: .int 800 :: rest)) (U := T.setVm vm1) (rest := rest) X1.here.top hready1 rfl X2 hkI1 hkindI1 hkA1 hkindA1 hlimit hheap hcells hslots (by show T.heap.size < _; omega) (by show T.slotsUsed + 800 ≤ _; exact hr2) (fun d2 acts2 => ?_)
  intro acts3
  have htop := X3.here.top
  simpa [jvm, htop] using a1
/-- new int[800][8] -/
theorem g_mna (C : gXn own cc nL cy D A p s m args meth c) (hP : va_P D gCl (X ++ Y) H) (hD : va_D A (X ++ Y)) (hS : va_S A s.heap H locs) {index : Nat} (hcl : Cond.classLink own index "[[I" ∈ gWs) (hcells : cells + 801 ≤ R.cells) (hslots : slots + 7200 ≤ R.slots) (hdg : decode cc pc = .ok (.multianewarray index 2, 4))
    (kk : ∀ (q : Nat) (r : Nat → Nat) (H1 : Heap), va_P D gCl ((X ++ [(q, .inl (cy 25, 800, .inr (.inr (.inr (.inr (fun i => if i < 800 then some (r i) else none))))))]) ++ (Y ++ gRows cy r)) H1 → va_D A ((X ++ [(q, .inl (cy 25, 800, .inr (.inr (.inr (.inr (fun i => if i < 800 then some (r i) else none))))))]) ++ (Y ++ gRows cy r)) → va_S A s.heap H1 locs → W p l e R s m args below meth c H1 locs (cells + 801) (slots + 7200) Q (F0 m (pc + 4) ls (.ref q :: rest))) : W p l e R s m args below meth c H locs cells slots Q (F0 m pc ls (.int 8 :: .int 800 :: rest)) := by
  obtain ⟨hx, hb, hml, hown, hts, hns, hK, hA, hAO⟩ := C
  obtain ⟨kA, hkA, hkindA⟩ := hAO
  have h25 : s.vm.findClass "[[I" = some (cy 25) := (hK.2 5 (cy 25, .array .int) rfl).2
  obtain ⟨-, kI, hkI, comp, hkindI⟩ := (hK.2 2 (cy 22, .int) rfl).1 0 (fun _ => .null)
  refine mn_W (cA := cy 25) (cI := cy 22) (comp := comp) (kA := kA) (kI := kI) hx hb hown (hts _ hcl) h25 hkA hkindA hkI hkindI hcells hslots hdg (fun H1 z1 z2 z3 z4 => ?_) hS.1
  have hlt : ∀ q ∈ X ++ Y, q.1 < H.size := fun q hq => by
    obtain ⟨i, hi⟩ := List.getElem?_of_mem hq
    exact (hP i q hi).lt
  have hp : ((X ++ Y) ++ ((H.size, Sum.inl (cy 25, 800, .inr (.inr (.inr (.inr (fun i => if i < 800 then some (H.size + 1 + i) else none)))))) :: gRows cy (fun i => H.size + 1 + i))).Perm ((X ++ [(H.size, .inl (cy 25, 800, .inr (.inr (.inr (.inr (fun i => if i < 800 then some (H.size + 1 + i) else none))))))]) ++ (Y ++ gRows cy (fun i => H.size + 1 + i))) := by
    rw [List.append_assoc, List.append_assoc]
    refine List.Perm.append_left X ?_
    rw [List.singleton_append]
    exact List.perm_middle
  refine kk H.size (fun i => H.size + 1 + i) H1 (gPP hp ?_) (gPD hp ?_) ⟨by rw [z1]; exact Nat.le_trans hS.1 (Nat.le_add_right _ _), fun q h1 h2 => (z4 q (Nat.lt_of_lt_of_le h1 hS.1)).trans (hS.2.1 q h1 h2), hS.2.2⟩
  · refine (hP.kept (fun k q hk => z4 _ (hP k q hk).lt)).app (fun k q hk => ?_)
    rcases List.mem_cons.mp (List.mem_of_getElem? hk) with rfl | hm
    · show H1[H.size]? = some (vp_cell _ _)
      rw [z2, vp_cell_q]
      congr 2
      funext j
      by_cases hj : j < 800
      · rw [if_pos hj, if_pos hj]
        rfl
      · rw [if_neg hj, if_neg hj]
        rfl
    · obtain ⟨i, hi, rfl⟩ := List.mem_map.mp hm
      show H1[H.size + 1 + i]? = some (vp_cell _ _)
      rw [z3 i (List.mem_range.mp hi), vp_cell_i, ← arrV_new]
  · rw [gDiff] at hD ⊢
    have hr : ∀ q ∈ gRows cy (fun i => H.size + 1 + i), ∃ i, i < 800 ∧ q.1 = H.size + 1 + i := fun q hq => by
      obtain ⟨i, hi, rfl⟩ := List.mem_map.mp hq
      exact ⟨i, List.mem_range.mp hi, rfl⟩
    refine ⟨?_, fun q hq => ?_⟩
    · rw [List.map_append, List.map_cons, List.pairwise_append, List.pairwise_cons]
      refine ⟨hD.1, ⟨fun b hb' => ?_, ?_⟩, fun a ha b hb' => ?_⟩
      · obtain ⟨q, hq, rfl⟩ := List.mem_map.mp hb'
        obtain ⟨i, -, e⟩ := hr q hq
        rw [e]
        show H.size ≠ H.size + 1 + i
        omega
      · unfold gRows
        rw [List.map_map, List.pairwise_map]
        refine List.Pairwise.imp ?_ (List.pairwise_lt_range (n := 800))
        intro i j hij
        show H.size + 1 + i ≠ H.size + 1 + j
        omega
      · obtain ⟨q, hq, rfl⟩ := List.mem_map.mp ha
        have h1 := hlt q hq
        rcases List.mem_cons.mp hb' with rfl | hb2
        · show q.1 ≠ H.size
          omega
        · obtain ⟨q2, hq2, rfl⟩ := List.mem_map.mp hb2
          obtain ⟨i, -, e⟩ := hr q2 hq2
          rw [e]
          omega
    · rcases List.mem_append.mp hq with h | h
      · exact hD.2 q h
      · rcases List.mem_cons.mp h with rfl | h
        · exact hA _ hS.1
        · obtain ⟨i, -, e⟩ := hr q h
          rw [e]
          exact hA _ (by have := hS.1; omega)
end MN2
