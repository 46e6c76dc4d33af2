/-! The constants: the enum's nine, their words, the switch's table; JDK methods on them. -/
def gKw : List (List Nat) := [[116, 101, 114, 109], [97, 108, 105, 97, 115], [105, 115, 97], [112, 97, 114, 116], [111, 108, 100], [103, 101, 110, 101], [110, 111, 116, 101], [110, 111, 116], [115, 116, 117, 100, 121]]
def gSl (i : Nat) : Nat := (gKw.getD i []).length
def gSb (i j : Nat) : Int32 := nI ((gKw.getD i []).getD j 0)
def gSec : List Int32 := [1, 1, 4, 4, 3, 2, 6, 6, 6]
def gThi : List Int32 := [0, 4, 5, 5, 0, 0, 4, 4, 0]
def gSwt : List Int32 := [1, 2, 3, 4, 5, 6, 7, 0, 8]
/-- where the constants lie: the array of the kinds, the switch's table, the kinds, their words, the words' bytes -/
abbrev gKd : Type := Nat × Nat × (Nat → Nat) × (Nat → Nat) × (Nat → Nat)
def gX3 (A : Nat → Prop) (K : gKd) (U : State) (H : Heap) : Prop :=
  (va_Z "TermDesk" "LINE_KINDS" "[LTermDesk$LineKind;" (.ref K.1) A U H ∧ va_T (.object "TermDesk$LineKind") K.1 9 (fun j => .ref (K.2.2.1 j)) A U H) ∧
  (va_Z "TermDesk$1" "$SwitchMap$TermDesk$LineKind" "[I" (.ref K.2.1) A U H ∧ va_T .int K.2.1 9 (fun j => .int (gSwt.getD j 0)) A U H) ∧
  (∀ i, i < 9 → va_O "TermDesk$LineKind" (K.2.2.1 i) A U H ∧ va_OF "TermDesk$LineKind" "word" "Ljava/lang/String;" (.ref (K.2.2.2.1 i)) (K.2.2.1 i) A U H ∧ va_OF "TermDesk$LineKind" "second" "I" (.int (gSec.getD i 0)) (K.2.2.1 i) A U H ∧ va_OF "TermDesk$LineKind" "third" "I" (.int (gThi.getD i 0)) (K.2.2.1 i) A U H ∧ va_OF "java/lang/Enum" "ordinal" "I" (.int (nI i)) (K.2.2.1 i) A U H) ∧
  (∀ i, i < 9 → va_O "java/lang/String" (K.2.2.2.1 i) A U H ∧ va_OF "java/lang/String" "coder" "B" (.int 0) (K.2.2.2.1 i) A U H ∧ va_OF "java/lang/String" "value" "[B" (.ref (K.2.2.2.2 i)) (K.2.2.2.1 i) A U H ∧ va_T .byte (K.2.2.2.2 i) (gSl i) (fun j => .int (gSb i j)) A U H) ∧
  va_Z "java/lang/String" "COMPACT_STRINGS" "Z" (.int 1) A U H ∧ va_Zq "jdk/internal/util/Preconditions" "SIOOBE_FORMATTER" "Ljava/util/function/BiFunction;" A U H
theorem gX3.moved {A : Nat → Prop} {K : gKd} {u U : State} {H : Heap} (hvm : u.vm.Alike U.vm) (h : gX3 A K u H) : gX3 A K U H := by
  obtain ⟨⟨a1, a2⟩, ⟨b1, b2⟩, h3, h4, h5, h6⟩ := h
  refine ⟨⟨va_Z.moved hvm a1, va_T.moved hvm a2⟩, ⟨va_Z.moved hvm b1, va_T.moved hvm b2⟩, fun i hi => ?_, fun i hi => ?_, va_Z.moved hvm h5, va_Zq.moved hvm h6⟩
  · obtain ⟨c1, c2, c3, c4, c5⟩ := h3 i hi
    exact ⟨va_O.moved hvm c1, va_OF.moved hvm c2, va_OF.moved hvm c3, va_OF.moved hvm c4, va_OF.moved hvm c5⟩
  · obtain ⟨c1, c2, c3, c4⟩ := h4 i hi
    exact ⟨va_O.moved hvm c1, va_OF.moved hvm c2, va_OF.moved hvm c3, va_T.moved hvm c4⟩
theorem gX3.kept {A : Nat → Prop} {K : gKd} {U : State} {H H1 : Heap} (h : gX3 A K U H) (hq : ∀ a : Nat, a < H.size → ¬ A a → H1[a]? = H[a]?) : gX3 A K U H1 := by
  obtain ⟨⟨a1, a2⟩, ⟨b1, b2⟩, h3, h4, h5, h6⟩ := h
  refine ⟨⟨a1.kept hq, a2.kept hq⟩, ⟨b1.kept hq, b2.kept hq⟩, fun i hi => ?_, fun i hi => ?_, h5.kept hq, h6.kept hq⟩
  · obtain ⟨c1, c2, c3, c4, c5⟩ := h3 i hi
    exact ⟨c1.kept hq, c2.kept hq, c3.kept hq, c4.kept hq, c5.kept hq⟩
  · obtain ⟨c1, c2, c3, c4⟩ := h4 i hi
    exact ⟨c1.kept hq, c2.kept hq, c3.kept hq, c4.kept hq⟩
theorem gX3.to {A : Nat → Prop} {K : gKd} {s U : State} {H : Heap} {locs : List Loc} (h : gX3 A K s s.heap) (hS : va_S A s.heap H locs) (hU : U.heap = H) (hW : s.WarmedH U.vm) : gX3 A K U U.heap := by
  rw [hU]
  exact gX3.moved hW.alike (h.kept hS.2.1)
/-- the start of a method that meets the constants -/
def gB3 (cy : Nat → ClassId) (D : va_G) (ρ : Nat → Nat) (A : Nat → Prop) (K : gKd) (u : gSt) (U : State) : Prop := gB cy D ρ u U ∧ gX3 A K U U.heap
theorem gB3_blind {cy : Nat → ClassId} {D : va_G} {ρ : Nat → Nat} {A : Nat → Prop} {K : gKd} {u : gSt} {av : List Value} : FrameBlind (va_Pc av (gB3 cy D ρ A K u)) := fun a U g mk h => ⟨h.1, (gB_blind (av := av) a U g mk ⟨h.1, h.2.1⟩).2, gX3.moved (u := U) (U := U.calling g mk a) (Vm.Alike.refl U.vm) h.2.2⟩
def gPV : Array Value → State → Outcome → State → Prop := fun _ st o t => o = .returned none ∧ t.heap = st.heap
def gCtQ (l : Launch) (y : MethodName) (cc : ByteArray) (nL : Nat) (ret : Option FieldType) (f n : Nat) (cy : Nat → ClassId) (D : va_G) (ρ : Nat → Nat) (A : Nat → Prop) (K : gKd) (av : List Value) (u : gSt) (Qc : Array Value → State → Outcome → State → Prop) : Prop :=
  Met l y (.code y cc nL ret :: gWs) (gRm f n) (va_Pc av (gB3 cy D ρ A K u)) Qc 0 0 (fun _ => False)
section GK
variable {p : Program} {l : Launch} {e : Env} {R : Room} {s : State} {m : MethodId} {args : Array Value} {below : List Frame} {meth : Method} {c : Code} {H : Heap} {locs : List Loc} {cells slots : Nat} {Q : State → Prop}
variable {cc : ByteArray} {pc nL : Nat} {ls : Array Slot} {rest : List Value} {D : va_G} {A : Nat → Prop} {cy : Nat → ClassId} {ρ : Nat → Nat} {u : gSt} {own : String} {ret : Option FieldType} {f n : Nat} {K : gKd}
theorem gB3_pre (X : gX own cc nL ret f n R cells slots cy D ρ A p s m args meth c) (X3 : gX3 A K s s.heap) (hP : va_P D gCl (gW cy ρ u) H) (hS : va_S A s.heap H locs) {U : State} (hU : U.heap = H) (hW : s.WarmedH U.vm) : gB3 cy D ρ A K u U := ⟨gB_pre X hP hU hW, X3.to hS hU hW⟩
/-- a method's words, its receiver's class aside -/
def gMq (y : MethodName) (cc : ByteArray) (nL : Nat) (ret : Option FieldType) (k : Nat) : Prop := Cond.code y cc nL ret ∈ gWs ∧ Cond.initialized y.cls ∈ gWs ∧ (y.cls ≠ "java/lang/invoke/MethodHandle" ∧ y.cls ≠ "java/lang/invoke/VarHandle" ∧ (parseMethodDescriptor y.desc).map (fun d => d.parameters.length) = some k)
theorem g_pureGo {mc : Nat} {st : List Value} {Qa : State → Outcome → State → Prop} {v : Option Value} (hrun : va_Run p l e R s m args below meth c H locs cells slots 0 0 (F0 m pc ls st) rest Qa (fun _ => False)) (hq : ∀ st0 o t, Qa st0 o t → o = .returned v ∧ t.heap = st0.heap)
    (kk : W p l e R s m args below meth c H locs cells slots Q (F0 m (pc + 3) ls (v.toList ++ rest))) : W p l e R s m args below meth c H locs cells slots Q (F0 m pc ls st) := by
  intro T1 hT Xs
  obtain ⟨v', st₀, t, T', L, h0, XT, hL, e1, e2, hqa, go⟩ := hrun T1 hT Xs
  have hL0 : L = [] := by
    cases L with
    | nil => rfl
    | cons q L => exact absurd (hL q List.mem_cons_self) id
  subst hL0
  rw [List.append_nil] at XT
  obtain ⟨ho, hh⟩ := hq _ _ _ hqa
  cases ho
  obtain ⟨t1, a1, b1⟩ := kk T' (by rw [e1, hh, h0]) XT
  exact ⟨t1, go t1 a1, b1⟩
/-- a virtual call of a JDK method on a constant -/
theorem g_callK (X : gX own cc nL ret f n R cells slots cy D ρ A p s m args meth c) (X3 : gX3 A K s s.heap) (hP : va_P D gCl (gW cy ρ u) H) (hS : va_S A s.heap H locs) {y : MethodName} {bytes : ByteArray} {maxL idx k f' n' b : Nat} {ret' : Option FieldType} {As st : List Value} {r : Int32}
    (hM : gCtQ l y bytes maxL ret' f' n' cy D ρ A K (.ref b :: As) u (gPQ r)) (hy : gMq y bytes maxL ret' k) (hins : Cond.instanceMethod y ∈ gWs) (hsel : Cond.selects y.cls y y ∈ gWs) (hl : Cond.methodLink own idx y ∈ gWs) (hO : va_O y.cls b A s s.heap) (hk : As.length = k) (hf : f' + 1 ≤ f) (hn : 8 + (maxL + 11) + n' ≤ n) (hsz : ls.size = nL) (hst : st = As.reverse ++ .ref b :: rest) (hcat : (rest.map fun v => v.category).sum ≤ 8) (hdg : decode cc pc = .ok (.invokevirtual idx, 3))
    (kk : W p l e R s m args below meth c H locs cells slots Q (F0 m (pc + 3) ls (.int r :: rest))) : W p l e R s m args below meth c H locs cells slots Q (F0 m pc ls st) := by
  have X' := X
  obtain ⟨hx, hb, hml, hr, hown, hts, hns, hK, hD, ⟨hr1, hr2, hr3, hr4⟩, -⟩ := X
  obtain ⟨hcode, hini, hd⟩ := hy
  have hrc : ∃ cell : Cell, H[b]? = some cell ∧ cell.vm.isStatics = false ∧ s.vm.findClass y.cls = some cell.cls := by
    obtain ⟨cell, h1, h2, h3, -⟩ := hO.kept hS.2.1
    exact ⟨cell, h1, h2, h3⟩
  have hpre : PreV s H y.cls b (va_Pc (.ref b :: As) (gB3 cy D ρ A K u)) As := ⟨gB3_blind, hrc, fun U hU hW => ⟨rfl, gB3_pre X' X3 hP hS hU hW⟩⟩
  have hroom : (gRm f' n').frames + 1 ≤ R.frames ∧ 8 + (maxL + 11) + (gRm f' n').locals ≤ R.locals := ⟨Nat.le_trans hf hr1, Nat.le_trans hn hr2⟩
  exact g_pureGo (mc := 0) (v := some (.int r)) (va_runV (Ts := gWs) (rm := gRm f' n') (n := k) ⟨hx, hb, hml, hown, hts⟩ hM ⟨callB_of k hts (gWs_in hcode) rfl rfl rfl (hts _ hini) (hts _ hl) hd hroom, hts _ hins, hts _ hsel⟩ hpre rfl hk hsz hst (lv_room hcat) hdg ⟨hr3, hr4⟩) (fun st0 o t h => h) kk
theorem g_runKS (X : gX own cc nL ret f n R cells slots cy D ρ A p s m args meth c) (X3 : gX3 A K s s.heap) (hP : va_P D gCl (gW cy ρ u) H) (hS : va_S A s.heap H locs) {y : MethodName} {bytes : ByteArray} {maxL idx k f' n' : Nat} {ret' : Option FieldType} {As st : List Value} {Qc : Array Value → State → Outcome → State → Prop}
    (hM : gCtQ l y bytes maxL ret' f' n' cy D ρ A K As u Qc) (hy : gMq y bytes maxL ret' k) (hsta : Cond.static y ∈ gWs) (hl : Cond.methodLink own idx y ∈ gWs) (hk : As.length = k) (hf : f' + 1 ≤ f) (hn : 8 + (maxL + 11) + n' ≤ n) (hsz : ls.size = nL) (hst : st = As.reverse ++ rest) (hcat : (rest.map fun v => v.category).sum ≤ 8) (hdg : decode cc pc = .ok (.invokestatic idx, 3)) :
    va_Run p l e R s m args below meth c H locs cells slots 0 0 (F0 m pc ls st) rest (Qc As.toArray) (fun _ => False) := by
  have X' := X
  obtain ⟨hx, hb, hml, hr, hown, hts, hns, hK, hD, ⟨hr1, hr2, hr3, hr4⟩, -⟩ := X
  obtain ⟨hcode, hini, hd⟩ := hy
  have hpre : PreS s H (va_Pc As (gB3 cy D ρ A K u)) As := ⟨gB3_blind, fun U hU hW => ⟨rfl, gB3_pre X' X3 hP hS hU hW⟩⟩
  have hroom : (gRm f' n').frames + 1 ≤ R.frames ∧ 8 + (maxL + 11) + (gRm f' n').locals ≤ R.locals := ⟨Nat.le_trans hf hr1, Nat.le_trans hn hr2⟩
  exact va_runS (Ts := gWs) (rm := gRm f' n') (n := k) ⟨hx, hb, hml, hown, hts⟩ hM ⟨callB_of k hts (gWs_in hcode) rfl rfl rfl (hts _ hini) (hts _ hl) hd hroom, hts _ hsta⟩ hpre rfl hk hsz hst (lv_room hcat) hdg ⟨hr3, hr4⟩
theorem g_metQ {y : MethodName} {maxL : Nat} {Qc : Array Value → State → Outcome → State → Prop} {av : List Value} (hy : plainName y.cls = true) (hD : gD ρ A) (hav : (lg_sl av).length ≤ maxL)
    (body : ∀ (p : Program) (e : Env) (s : State) (m : MethodId) (below : List Frame) (meth : Method) (c : Code) (ls : Array Slot), gX y.cls cc maxL ret f n (gRm f n) 0 0 cy D ρ A p s m av.toArray meth c → gX3 A K s s.heap → lv_has ls maxL (lv_args 0 av) → va_P D gCl (gW cy ρ u) s.heap → W p l e (gRm f n) s m av.toArray below meth c s.heap [] 0 0 (MQ below Qc av.toArray s 0 0 (fun _ => False)) (F0 m 0 ls [])) :
    gCtQ l y cc maxL ret f n cy D ρ A K av u Qc := by
  refine Met.ofW (cc := cc) (maxL := maxL) (ret := ret) hy rfl ?_
  intro p e s m args below meth c s₁ B hml hv
  obtain ⟨rfl, ⟨hP, hK, hns⟩, hX3⟩ := hv
  have hts := atoms_spec (ws := .code y cc maxL ret :: gWs) B.pre
  have hl := lv_entry av (n := maxL) hav
  rw [lg_entry_eq]
  exact body p e s m below meth c _ ⟨B.exec, B.bytes, hml, B.returns, findClass_of_methodNamed B.named, fun w hw => hts w (List.mem_cons_of_mem _ hw), hns, hK, hD, ⟨Nat.le_refl _, Nat.le_refl _, Nat.le_refl _, Nat.le_refl _⟩, B.notSynchronized⟩ hX3 hl hP
theorem g_retK {ty : FieldType} (X : gX own cc nL (some ty) f n R cells slots cy D ρ A p s m args meth c) {v : Int32} (hn : narrow ty (.int v) = .int v) (hdg : decode cc pc = .ok (.ireturn, 1)) : W p l e R s m args below meth c s.heap [] cells slots (MQ below (gPQ v) args s cells slots (fun _ => False)) (F0 m pc ls [.int v]) := by
  obtain ⟨hx, hb, hml, hr, hown, hts, hns, hK, hD, -, hlk⟩ := X
  exact W.zret hx hb hr hn (fun t ht hW => ⟨rfl, ht⟩) (fun q hq => by cases hq) hdg hlk
theorem g_retKv (X : gX own cc nL none f n R cells slots cy D ρ A p s m args meth c) (hdg : decode cc pc = .ok (.return_, 1)) : W p l e R s m args below meth c s.heap [] cells slots (MQ below gPV args s cells slots (fun _ => False)) (F0 m pc ls []) := by
  obtain ⟨hx, hb, hml, hr, hown, hts, hns, hK, hD, -, hlk⟩ := X
  exact W.vret hx hb hr (fun t ht hW => ⟨rfl, ht⟩) (fun q hq => by cases hq) hdg hlk
end GK

def y_Scoder : MethodName := ⟨"java/lang/String", "coder", "()B"⟩
theorem gq_Scoder : gMq y_Scoder prog_22_method_152_code 1 (some .byte) 0 := ⟨(gWs_at 452 (by decide +kernel) (by decide +kernel)), (gWs_at 131 (by decide +kernel) (by decide +kernel)), ⟨by decide +kernel, by decide +kernel, by decide +kernel⟩⟩
theorem d_Scoder_0 : decode prog_22_method_152_code 0 = .ok (.getstatic 38, 3) := by decide +kernel
theorem d_Scoder_3 : decode prog_22_method_152_code 3 = .ok (.ifCond .eq 10, 3) := by decide +kernel
theorem d_Scoder_6 : decode prog_22_method_152_code 6 = .ok (.aload_n 0, 1) := by decide +kernel
theorem d_Scoder_7 : decode prog_22_method_152_code 7 = .ok (.getfield 15, 3) := by decide +kernel
theorem d_Scoder_10 : decode prog_22_method_152_code 10 = .ok (.goto 4, 3) := by decide +kernel
theorem d_Scoder_14 : decode prog_22_method_152_code 14 = .ok (.ireturn, 1) := by decide +kernel
theorem k_Scoder {l : Launch} {cy : Nat → ClassId} {D : va_G} {ρ : Nat → Nat} {A : Nat → Prop} {K : gKd} (hD : gD ρ A) {u : gSt} {i : Nat} (hi : i < 9) : gCtQ l y_Scoder prog_22_method_152_code 1 (some .byte) 0 0 cy D ρ A K [.ref (K.2.2.2.1 i)] u (gPQ 0) := by
  refine g_metQ (by decide) hD (Nat.le_of_ble_eq_true rfl) (fun p e s m below meth c ls C X3 hl hP => ?_)
  have hx := C.1
  have hb := C.2.1
  have hown := C.2.2.2.2.1
  have hts := C.2.2.2.2.2.1
  have hS : va_S A s.heap s.heap [] := va_S.rf
  have hl : lv_has ls 1 [(0, .ref (K.2.2.2.1 i))] := hl
  refine va_gets hx hb X3.2.2.2.2.1 hS hown (hts _ (gWs_at 453 (by decide +kernel) (by decide +kernel))) (fun _ h => h) d_Scoder_0 ?_
  refine lv_if_eq (tgt := 13) hx hb d_Scoder_3 (by decide) (fun h => absurd h (by decide)) (fun _ => ?_)
  refine lv_aload_n hx hb d_Scoder_6 rfl (lv_at hl 0 rfl) ?_
  refine vk_getf hx hb (X3.2.2.2.1 i hi).2.1 hS hown (hts _ (gWs_at 1421 (by decide +kernel) (by decide +kernel))) (fun _ h => h) d_Scoder_7 ?_
  refine lv_goto (tgt := 14) hx hb d_Scoder_10 (by decide) ?_
  exact g_retK C (by decide +kernel) d_Scoder_14
def y_Slength : MethodName := ⟨"java/lang/String", "length", "()I"⟩
theorem gq_Slength : gMq y_Slength prog_22_method_54_code 1 (some .int) 0 := ⟨(gWs_at 448 (by decide +kernel) (by decide +kernel)), (gWs_at 131 (by decide +kernel) (by decide +kernel)), ⟨by decide +kernel, by decide +kernel, by decide +kernel⟩⟩
theorem d_Slength_0 : decode prog_22_method_54_code 0 = .ok (.aload_n 0, 1) := by decide +kernel
theorem d_Slength_1 : decode prog_22_method_54_code 1 = .ok (.getfield 9, 3) := by decide +kernel
theorem d_Slength_4 : decode prog_22_method_54_code 4 = .ok (.arraylength, 1) := by decide +kernel
theorem d_Slength_5 : decode prog_22_method_54_code 5 = .ok (.aload_n 0, 1) := by decide +kernel
theorem d_Slength_6 : decode prog_22_method_54_code 6 = .ok (.invokevirtual 335, 3) := by decide +kernel
theorem d_Slength_9 : decode prog_22_method_54_code 9 = .ok (.ishr, 1) := by decide +kernel
theorem d_Slength_10 : decode prog_22_method_54_code 10 = .ok (.ireturn, 1) := by decide +kernel
/-- what String.length answers on the i-th word -/
def gSlen (i : Nat) : Int32 := Int32.ofNat (gSl i) >>> ((0 : Int32) &&& (31 : Int32))
theorem k_Slength {l : Launch} {cy : Nat → ClassId} {D : va_G} {ρ : Nat → Nat} {A : Nat → Prop} {K : gKd} (hD : gD ρ A) {u : gSt} {i : Nat} (hi : i < 9) : gCtQ l y_Slength prog_22_method_54_code 1 (some .int) 1 20 cy D ρ A K [.ref (K.2.2.2.1 i)] u (gPQ (gSlen i)) := by
  refine g_metQ (by decide) hD (Nat.le_of_ble_eq_true rfl) (fun p e s m below meth c ls C X3 hl hP => ?_)
  have hx := C.1
  have hb := C.2.1
  have hown := C.2.2.2.2.1
  have hts := C.2.2.2.2.2.1
  have hS : va_S A s.heap s.heap [] := va_S.rf
  have hl : lv_has ls 1 [(0, .ref (K.2.2.2.1 i))] := hl
  refine lv_aload_n hx hb d_Slength_0 rfl (lv_at hl 0 rfl) ?_
  refine vk_getf hx hb (X3.2.2.2.1 i hi).2.2.1 hS hown (hts _ (gWs_at 1420 (by decide +kernel) (by decide +kernel))) (fun _ h => h) d_Slength_1 ?_
  refine va_tlen (v := Int32.ofNat (gSl i)) hx hb (X3.2.2.2.1 i hi).2.2.2 hS rfl d_Slength_4 ?_
  refine lv_aload_n hx hb d_Slength_5 rfl (lv_at hl 0 rfl) ?_
  refine g_callK (As := []) C X3 hP hS (k_Scoder C.2.2.2.2.2.2.2.2.1 hi) gq_Scoder (gWs_at 450 (by decide +kernel) (by decide +kernel)) (gWs_at 451 (by decide +kernel) (by decide +kernel)) (gWs_at 449 (by decide +kernel) (by decide +kernel)) (X3.2.2.2.1 i hi).1 rfl (by decide) (by decide) hl.1 rfl (Nat.le_of_ble_eq_true rfl) d_Slength_6 ?_
  refine lv_ishr hx hb d_Slength_9 ?_
  exact g_retK C rfl d_Slength_10
def y_Slatin : MethodName := ⟨"java/lang/String", "isLatin1", "()Z"⟩
theorem gq_Slatin : gMq y_Slatin prog_22_method_154_code 1 (some .boolean) 0 := ⟨(gWs_at 466 (by decide +kernel) (by decide +kernel)), (gWs_at 131 (by decide +kernel) (by decide +kernel)), ⟨by decide +kernel, by decide +kernel, by decide +kernel⟩⟩
theorem d_Slatin_0 : decode prog_22_method_154_code 0 = .ok (.getstatic 38, 3) := by decide +kernel
theorem d_Slatin_3 : decode prog_22_method_154_code 3 = .ok (.ifCond .eq 14, 3) := by decide +kernel
theorem d_Slatin_6 : decode prog_22_method_154_code 6 = .ok (.aload_n 0, 1) := by decide +kernel
theorem d_Slatin_7 : decode prog_22_method_154_code 7 = .ok (.getfield 15, 3) := by decide +kernel
theorem d_Slatin_10 : decode prog_22_method_154_code 10 = .ok (.ifCond .ne 7, 3) := by decide +kernel
theorem d_Slatin_13 : decode prog_22_method_154_code 13 = .ok (.iconst 1, 1) := by decide +kernel
theorem d_Slatin_14 : decode prog_22_method_154_code 14 = .ok (.goto 4, 3) := by decide +kernel
theorem d_Slatin_18 : decode prog_22_method_154_code 18 = .ok (.ireturn, 1) := by decide +kernel
theorem k_Slatin {l : Launch} {cy : Nat → ClassId} {D : va_G} {ρ : Nat → Nat} {A : Nat → Prop} {K : gKd} (hD : gD ρ A) {u : gSt} {i : Nat} (hi : i < 9) : gCtQ l y_Slatin prog_22_method_154_code 1 (some .boolean) 0 0 cy D ρ A K [.ref (K.2.2.2.1 i)] u (gPQ 1) := by
  refine g_metQ (by decide) hD (Nat.le_of_ble_eq_true rfl) (fun p e s m below meth c ls C X3 hl hP => ?_)
  have hx := C.1
  have hb := C.2.1
  have hown := C.2.2.2.2.1
  have hts := C.2.2.2.2.2.1
  have hS : va_S A s.heap s.heap [] := va_S.rf
  have hl : lv_has ls 1 [(0, .ref (K.2.2.2.1 i))] := hl
  refine va_gets hx hb X3.2.2.2.2.1 hS hown (hts _ (gWs_at 453 (by decide +kernel) (by decide +kernel))) (fun _ h => h) d_Slatin_0 ?_
  refine lv_if_eq (tgt := 17) hx hb d_Slatin_3 (by decide) (fun h => absurd h (by decide)) (fun _ => ?_)
  refine lv_aload_n hx hb d_Slatin_6 rfl (lv_at hl 0 rfl) ?_
  refine vk_getf hx hb (X3.2.2.2.1 i hi).2.1 hS hown (hts _ (gWs_at 1421 (by decide +kernel) (by decide +kernel))) (fun _ h => h) d_Slatin_7 ?_
  refine lv_if_ne (tgt := 17) hx hb d_Slatin_10 (by decide) (fun h => absurd rfl h) (fun _ => ?_)
  refine lv_iconst (v := 1) hx hb d_Slatin_13 (by decide) ?_
  refine lv_goto (tgt := 18) hx hb d_Slatin_14 (by decide) ?_
  exact g_retK C (by decide +kernel) d_Slatin_18
def y_Pcheck : MethodName := ⟨"jdk/internal/util/Preconditions", "checkIndex", "(IILjava/util/function/BiFunction;)I"⟩
theorem gq_Pcheck : gMq y_Pcheck prog_28_method_11_code 3 (some .int) 3 := ⟨(gWs_at 477 (by decide +kernel) (by decide +kernel)), (gWs_at 133 (by decide +kernel) (by decide +kernel)), ⟨by decide +kernel, by decide +kernel, by decide +kernel⟩⟩
theorem d_Pcheck_0 : decode prog_28_method_11_code 0 = .ok (.iload_n 0, 1) := by decide +kernel
theorem d_Pcheck_1 : decode prog_28_method_11_code 1 = .ok (.ifCond .lt 8, 3) := by decide +kernel
theorem d_Pcheck_4 : decode prog_28_method_11_code 4 = .ok (.iload_n 0, 1) := by decide +kernel
theorem d_Pcheck_5 : decode prog_28_method_11_code 5 = .ok (.iload_n 1, 1) := by decide +kernel
theorem d_Pcheck_6 : decode prog_28_method_11_code 6 = .ok (.if_icmp .lt 10, 3) := by decide +kernel
theorem d_Pcheck_16 : decode prog_28_method_11_code 16 = .ok (.iload_n 0, 1) := by decide +kernel
theorem d_Pcheck_17 : decode prog_28_method_11_code 17 = .ok (.ireturn, 1) := by decide +kernel
theorem k_Pcheck {l : Launch} {cy : Nat → ClassId} {D : va_G} {ρ : Nat → Nat} {A : Nat → Prop} {K : gKd} (hD : gD ρ A) {u : gSt} {j n9 : Int32} {v : Value} (hv : v.category = 1) (h0 : ¬ j < 0) (h1 : j < n9) : gCtQ l y_Pcheck prog_28_method_11_code 3 (some .int) 0 0 cy D ρ A K [.int j, .int n9, v] u (gPQ j) := by
  refine g_metQ (by decide) hD (by cases v <;> first | exact Nat.le_of_ble_eq_true rfl | cases hv) (fun p e s m below meth c ls C X3 hl hP => ?_)
  have hx := C.1
  have hb := C.2.1
  have hown := C.2.2.2.2.1
  have hts := C.2.2.2.2.2.1
  have hS : va_S A s.heap s.heap [] := va_S.rf
  have hl : lv_has ls 3 [(0, .int j), (1, .int n9), (2, v)] := hl
  refine lv_iload_n hx hb d_Pcheck_0 rfl (lv_at hl 0 rfl) ?_
  refine lv_if_lt (tgt := 9) hx hb d_Pcheck_1 (by decide) (fun h => absurd h h0) (fun _ => ?_)
  refine lv_iload_n hx hb d_Pcheck_4 rfl (lv_at hl 0 rfl) ?_
  refine lv_iload_n hx hb d_Pcheck_5 rfl (lv_at hl 1 rfl) ?_
  refine lv_icmp_lt (tgt := 16) hx hb d_Pcheck_6 (by decide) (fun _ => ?_) (fun h => absurd h1 h)
  refine lv_iload_n hx hb d_Pcheck_16 rfl (lv_at hl 0 rfl) ?_
  exact g_retK C rfl d_Pcheck_17
def y_Scheck : MethodName := ⟨"java/lang/String", "checkIndex", "(II)V"⟩
theorem gq_Scheck : gMq y_Scheck prog_22_method_155_code 2 none 2 := ⟨(gWs_at 472 (by decide +kernel) (by decide +kernel)), (gWs_at 131 (by decide +kernel) (by decide +kernel)), ⟨by decide +kernel, by decide +kernel, by decide +kernel⟩⟩
theorem d_Scheck_0 : decode prog_22_method_155_code 0 = .ok (.iload_n 0, 1) := by decide +kernel
theorem d_Scheck_1 : decode prog_22_method_155_code 1 = .ok (.iload_n 1, 1) := by decide +kernel
theorem d_Scheck_2 : decode prog_22_method_155_code 2 = .ok (.getstatic 1053, 3) := by decide +kernel
theorem d_Scheck_5 : decode prog_22_method_155_code 5 = .ok (.invokestatic 1059, 3) := by decide +kernel
theorem d_Scheck_8 : decode prog_22_method_155_code 8 = .ok (.pop, 1) := by decide +kernel
theorem d_Scheck_9 : decode prog_22_method_155_code 9 = .ok (.return_, 1) := by decide +kernel
theorem k_Scheck {l : Launch} {cy : Nat → ClassId} {D : va_G} {ρ : Nat → Nat} {A : Nat → Prop} {K : gKd} (hD : gD ρ A) {u : gSt} {j n9 : Int32} (h0 : ¬ j < 0) (h1 : j < n9) : gCtQ l y_Scheck prog_22_method_155_code 2 none 1 22 cy D ρ A K [.int j, .int n9] u gPV := by
  refine g_metQ (by decide) hD (Nat.le_of_ble_eq_true rfl) (fun p e s m below meth c ls C X3 hl hP => ?_)
  have hx := C.1
  have hb := C.2.1
  have hown := C.2.2.2.2.1
  have hts := C.2.2.2.2.2.1
  have hS : va_S A s.heap s.heap [] := va_S.rf
  have hl : lv_has ls 2 [(0, .int j), (1, .int n9)] := hl
  refine lv_iload_n hx hb d_Scheck_0 rfl (lv_at hl 0 rfl) ?_
  refine lv_iload_n hx hb d_Scheck_1 rfl (lv_at hl 1 rfl) ?_
  rcases X3.2.2.2.2.2 with hz | ⟨t, hz⟩
  · refine va_gets hx hb hz hS hown (hts _ (gWs_at 473 (by decide +kernel) (by decide +kernel))) (fun _ h => h) d_Scheck_2 ?_
    refine g_pureGo (mc := 0) (v := some (.int j)) (g_runKS (As := [.int j, .int n9, .null]) C X3 hP hS (k_Pcheck C.2.2.2.2.2.2.2.2.1 rfl h0 h1) gq_Pcheck (gWs_at 476 (by decide +kernel) (by decide +kernel)) (gWs_at 475 (by decide +kernel) (by decide +kernel)) rfl (by decide) (by decide) hl.1 rfl (Nat.le_of_ble_eq_true rfl) d_Scheck_5) (fun _ _ _ h => h) ?_
    refine lv_pop hx hb d_Scheck_8 rfl ?_
    exact g_retKv C d_Scheck_9
  · refine va_gets hx hb hz hS hown (hts _ (gWs_at 473 (by decide +kernel) (by decide +kernel))) (fun _ h => h) d_Scheck_2 ?_
    refine g_pureGo (mc := 0) (v := some (.int j)) (g_runKS (As := [.int j, .int n9, .ref t]) C X3 hP hS (k_Pcheck C.2.2.2.2.2.2.2.2.1 rfl h0 h1) gq_Pcheck (gWs_at 476 (by decide +kernel) (by decide +kernel)) (gWs_at 475 (by decide +kernel) (by decide +kernel)) rfl (by decide) (by decide) hl.1 rfl (Nat.le_of_ble_eq_true rfl) d_Scheck_5) (fun _ _ _ h => h) ?_
    refine lv_pop hx hb d_Scheck_8 rfl ?_
    exact g_retKv C d_Scheck_9
def y_Lchar : MethodName := ⟨"java/lang/StringLatin1", "charAt", "([BI)C"⟩
theorem gq_Lchar : gMq y_Lchar prog_23_method_2_code 2 (some .char) 2 := ⟨(gWs_at 469 (by decide +kernel) (by decide +kernel)), (gWs_at 132 (by decide +kernel) (by decide +kernel)), ⟨by decide +kernel, by decide +kernel, by decide +kernel⟩⟩
theorem d_Lchar_0 : decode prog_23_method_2_code 0 = .ok (.iload_n 1, 1) := by decide +kernel
theorem d_Lchar_1 : decode prog_23_method_2_code 1 = .ok (.aload_n 0, 1) := by decide +kernel
theorem d_Lchar_2 : decode prog_23_method_2_code 2 = .ok (.arraylength, 1) := by decide +kernel
theorem d_Lchar_3 : decode prog_23_method_2_code 3 = .ok (.invokestatic 9, 3) := by decide +kernel
theorem d_Lchar_6 : decode prog_23_method_2_code 6 = .ok (.aload_n 0, 1) := by decide +kernel
theorem d_Lchar_7 : decode prog_23_method_2_code 7 = .ok (.iload_n 1, 1) := by decide +kernel
theorem d_Lchar_8 : decode prog_23_method_2_code 8 = .ok (.baload, 1) := by decide +kernel
theorem d_Lchar_9 : decode prog_23_method_2_code 9 = .ok (.sipush 255, 3) := by decide +kernel
theorem d_Lchar_12 : decode prog_23_method_2_code 12 = .ok (.iand, 1) := by decide +kernel
theorem d_Lchar_13 : decode prog_23_method_2_code 13 = .ok (.i2c, 1) := by decide +kernel
theorem d_Lchar_14 : decode prog_23_method_2_code 14 = .ok (.ireturn, 1) := by decide +kernel
/-- what String.charAt answers -/
def gSch (i : Nat) (j : Int32) : Int32 := ((gSb i (gIx j) &&& 255).toUInt32 % 65536).toInt32
theorem k_Lchar {l : Launch} {cy : Nat → ClassId} {D : va_G} {ρ : Nat → Nat} {A : Nat → Prop} {K : gKd} (hD : gD ρ A) {u : gSt} {i : Nat} (hi : i < 9) {j : Int32} (hj : gIn j (gSl i) = true) : gCtQ l y_Lchar prog_23_method_2_code 2 (some .char) 2 43 cy D ρ A K [.ref (K.2.2.2.2 i), .int j] u (gPQ (gSch i j)) := by
  refine g_metQ (by decide) hD (Nat.le_of_ble_eq_true rfl) (fun p e s m below meth c ls C X3 hl hP => ?_)
  have hx := C.1
  have hb := C.2.1
  have hown := C.2.2.2.2.1
  have hts := C.2.2.2.2.2.1
  have hS : va_S A s.heap s.heap [] := va_S.rf
  have hl : lv_has ls 2 [(0, .ref (K.2.2.2.2 i)), (1, .int j)] := hl
  have hT := (X3.2.2.2.1 i hi).2.2.2
  have hin := gIn_in hj
  have hjj := of_decide_eq_true hj
  have hlen : gSl i < 2 ^ 31 := by
    have : ∀ i, i < 9 → gSl i < 2 ^ 31 := by decide
    exact this i hi
  have h0 : ¬ j < 0 := (g_nn hjj.1).1
  have h1 : j < Int32.ofNat (gSl i) := by
    rw [Int32.lt_iff_toInt_lt, show (Int32.ofNat (gSl i)).toInt = (gSl i : Int) from nI_toInt hlen]
    exact hjj.2
  refine lv_iload_n hx hb d_Lchar_0 rfl (lv_at hl 1 rfl) ?_
  refine lv_aload_n hx hb d_Lchar_1 rfl (lv_at hl 0 rfl) ?_
  refine va_tlen (v := Int32.ofNat (gSl i)) hx hb hT hS rfl d_Lchar_2 ?_
  refine g_pureGo (mc := 0) (v := none) (g_runKS (As := [.int j, .int (Int32.ofNat (gSl i))]) C X3 hP hS (k_Scheck C.2.2.2.2.2.2.2.2.1 h0 h1) gq_Scheck (gWs_at 471 (by decide +kernel) (by decide +kernel)) (gWs_at 470 (by decide +kernel) (by decide +kernel)) rfl (by decide) (by decide) hl.1 rfl (Nat.le_of_ble_eq_true rfl) d_Lchar_3) (fun _ _ _ h => h) ?_
  refine lv_aload_n hx hb d_Lchar_6 rfl (lv_at hl 0 rfl) ?_
  refine lv_iload_n hx hb d_Lchar_7 rfl (lv_at hl 1 rfl) ?_
  refine va_tb (v := .int (gSb i (gIx j))) hx hb hT hS hin rfl d_Lchar_8 ?_
  refine lv_sipush (v := 255) hx hb d_Lchar_9 (by decide) ?_
  refine lv_iand hx hb d_Lchar_12 ?_
  refine lv_i2c (v := gSch i j) hx hb d_Lchar_13 rfl ?_
  exact g_retK C (pk_nc _) d_Lchar_14
def y_Schar : MethodName := ⟨"java/lang/String", "charAt", "(I)C"⟩
theorem gq_Schar : gMq y_Schar prog_22_method_56_code 2 (some .char) 1 := ⟨(gWs_at 462 (by decide +kernel) (by decide +kernel)), (gWs_at 131 (by decide +kernel) (by decide +kernel)), ⟨by decide +kernel, by decide +kernel, by decide +kernel⟩⟩
theorem d_Schar_0 : decode prog_22_method_56_code 0 = .ok (.aload_n 0, 1) := by decide +kernel
theorem d_Schar_1 : decode prog_22_method_56_code 1 = .ok (.invokevirtual 492, 3) := by decide +kernel
theorem d_Schar_4 : decode prog_22_method_56_code 4 = .ok (.ifCond .eq 12, 3) := by decide +kernel
theorem d_Schar_7 : decode prog_22_method_56_code 7 = .ok (.aload_n 0, 1) := by decide +kernel
theorem d_Schar_8 : decode prog_22_method_56_code 8 = .ok (.getfield 9, 3) := by decide +kernel
theorem d_Schar_11 : decode prog_22_method_56_code 11 = .ok (.iload_n 1, 1) := by decide +kernel
theorem d_Schar_12 : decode prog_22_method_56_code 12 = .ok (.invokestatic 495, 3) := by decide +kernel
theorem d_Schar_15 : decode prog_22_method_56_code 15 = .ok (.ireturn, 1) := by decide +kernel
theorem k_Schar {l : Launch} {cy : Nat → ClassId} {D : va_G} {ρ : Nat → Nat} {A : Nat → Prop} {K : gKd} (hD : gD ρ A) {u : gSt} {i : Nat} (hi : i < 9) {j : Int32} (hj : gIn j (gSl i) = true) : gCtQ l y_Schar prog_22_method_56_code 2 (some .char) 3 64 cy D ρ A K [.ref (K.2.2.2.1 i), .int j] u (gPQ (gSch i j)) := by
  refine g_metQ (by decide) hD (Nat.le_of_ble_eq_true rfl) (fun p e s m below meth c ls C X3 hl hP => ?_)
  have hx := C.1
  have hb := C.2.1
  have hown := C.2.2.2.2.1
  have hts := C.2.2.2.2.2.1
  have hS : va_S A s.heap s.heap [] := va_S.rf
  have hl : lv_has ls 2 [(0, .ref (K.2.2.2.1 i)), (1, .int j)] := hl
  refine lv_aload_n hx hb d_Schar_0 rfl (lv_at hl 0 rfl) ?_
  refine g_callK (As := []) C X3 hP hS (k_Slatin C.2.2.2.2.2.2.2.2.1 hi) gq_Slatin (gWs_at 464 (by decide +kernel) (by decide +kernel)) (gWs_at 465 (by decide +kernel) (by decide +kernel)) (gWs_at 463 (by decide +kernel) (by decide +kernel)) (X3.2.2.2.1 i hi).1 rfl (by decide) (by decide) hl.1 rfl (Nat.le_of_ble_eq_true rfl) d_Schar_1 ?_
  refine lv_if_eq (tgt := 16) hx hb d_Schar_4 (by decide) (fun h => absurd h (by decide)) (fun _ => ?_)
  refine lv_aload_n hx hb d_Schar_7 rfl (lv_at hl 0 rfl) ?_
  refine vk_getf hx hb (X3.2.2.2.1 i hi).2.2.1 hS hown (hts _ (gWs_at 1420 (by decide +kernel) (by decide +kernel))) (fun _ h => h) d_Schar_8 ?_
  refine lv_iload_n hx hb d_Schar_11 rfl (lv_at hl 1 rfl) ?_
  refine g_pureGo (mc := 0) (v := some (.int (gSch i j))) (g_runKS (As := [.ref (K.2.2.2.2 i), .int j]) C X3 hP hS (k_Lchar C.2.2.2.2.2.2.2.2.1 hi hj) gq_Lchar (gWs_at 468 (by decide +kernel) (by decide +kernel)) (gWs_at 467 (by decide +kernel) (by decide +kernel)) rfl (by decide) (by decide) hl.1 rfl (Nat.le_of_ble_eq_true rfl) d_Schar_12) (fun _ _ _ h => h) ?_
  exact g_retK C (pk_nc _) d_Schar_15
