/-! Rows over the world of part 03: heap instructions, calls, ends; contracts of methods that make no cell. -/
theorem gNest_tab {w : Cond} (h : gNest w = true) : w.onTables = true := by
  cases w <;> first | rfl | cases h
theorem gNs_nest {w : Cond} (h : w ∈ gNs) : gNest w = true := (List.mem_filter.mp h).2
theorem gNs_warm {s U : State} (hW : s.WarmedH U.vm) (h : ∀ w ∈ gNs, va_Nw w s) : ∀ w ∈ gNs, va_Nw w U := fun w hw => by
  have h1 := gNs_nest hw
  have h2 := h w hw
  cases w <;> first | exact va_Nw.warmF hW h2 | exact va_Nw.warmM hW h2 | cases h1
theorem gWs_good {w : Cond} (h : w ∈ gWs) : (w.onTables && w.keeps) = true ∨ ∃ ty, w = .arrayClass ty := good_of_word (List.mem_filter.mp h).2
/-- what stands fast in a method's body -/
def gX (own : String) (cc : ByteArray) (nL : Nat) (ret : Option FieldType) (f n : Nat) (R : Room) (cells slots : Nat) (cy : Nat → ClassId) (D : va_G) (ρ : Nat → Nat) (A : Nat → Prop) (p : Program) (s : State) (m : MethodId) (args : Array Value) (meth : Method) (c : Code) : Prop :=
  p.tables.exec = Jvm.exec ∧ c.code = cc ∧ c.maxLocals = nL ∧ meth.sig.returnType = ret ∧ s.vm.findClass own = some m.cls ∧ (∀ w ∈ gWs, w.before args s = true) ∧ (∀ w ∈ gNs, va_Nw w s) ∧ va_K D gCl (gTys cy) s ∧ gD ρ A ∧ (f ≤ R.frames ∧ n ≤ R.locals ∧ cells ≤ R.cells ∧ slots ≤ R.slots) ∧ meth.locks = false
def gB (cy : Nat → ClassId) (D : va_G) (ρ : Nat → Nat) (u : gSt) (U : State) : Prop := va_P D gCl (gW cy ρ u) U.heap ∧ va_K D gCl (gTys cy) U ∧ ∀ w ∈ gNs, va_Nw w U
theorem gB_blind {cy : Nat → ClassId} {D : va_G} {ρ : Nat → Nat} {u : gSt} {av : List Value} : FrameBlind (va_Pc av (gB cy D ρ u)) := fun a U g mk h => ⟨h.1, h.2.1, va_K.moved (u := U) (U := U.calling g mk a) (Vm.Alike.refl U.vm) h.2.2.1, fun w hw => va_Nw.same (u := U) (U := U.calling g mk a) (gNest_tab (gNs_nest hw)) rfl (h.2.2.2 w hw)⟩
abbrev gRm (f n : Nat) : Room := { frames := f, cells := 0, slots := 0, locals := n }
def gCtI (l : Launch) (y : MethodName) (cc : ByteArray) (nL : Nat) (ret : Option FieldType) (f n : Nat) (cy : Nat → ClassId) (D : va_G) (ρ : Nat → Nat) (A : Nat → Prop) (av : List Value) (u : gSt) (r : Int32) (u' : gSt) : Prop :=
  Met l y (.code y cc nL ret :: gWs) (gRm f n) (va_Pc av (gB cy D ρ u)) (va_Qi (fun r1 v => r1 = r ∧ v = u') (gB cy D ρ) A) 0 0 A
def gCtL (l : Launch) (y : MethodName) (cc : ByteArray) (nL : Nat) (ret : Option FieldType) (f n : Nat) (cy : Nat → ClassId) (D : va_G) (ρ : Nat → Nat) (A : Nat → Prop) (av : List Value) (u : gSt) (r : Int64) (u' : gSt) : Prop :=
  Met l y (.code y cc nL ret :: gWs) (gRm f n) (va_Pc av (gB cy D ρ u)) (va_Ql (fun r1 v => r1 = r ∧ v = u') (gB cy D ρ) A) 0 0 A
def gCtV (l : Launch) (y : MethodName) (cc : ByteArray) (nL : Nat) (ret : Option FieldType) (f n : Nat) (cy : Nat → ClassId) (D : va_G) (ρ : Nat → Nat) (A : Nat → Prop) (av : List Value) (u : gSt) (u' : gSt) : Prop :=
  Met l y (.code y cc nL ret :: gWs) (gRm f n) (va_Pc av (gB cy D ρ u)) (va_Qv (fun v => v = u') (gB cy D ρ) A) 0 0 A
/-- what the tables say of a method, for a call of it -/
def gMi (y : MethodName) (cc : ByteArray) (nL : Nat) (ret : Option FieldType) (k ci : Nat) : Prop := Cond.code y cc nL ret ∈ gWs ∧ Cond.instanceMethod y ∈ gWs ∧ Cond.selects y.cls y y ∈ gWs ∧ Cond.initialized y.cls ∈ gWs ∧ (y.cls ≠ "java/lang/invoke/MethodHandle" ∧ y.cls ≠ "java/lang/invoke/VarHandle" ∧ (parseMethodDescriptor y.desc).map (fun d => d.parameters.length) = some k) ∧ ∃ T N, gCl[ci]? = some (y.cls, T, N)
def gMs (y : MethodName) (cc : ByteArray) (nL : Nat) (ret : Option FieldType) (k : Nat) : Prop := Cond.code y cc nL ret ∈ gWs ∧ Cond.static y ∈ gWs ∧ Cond.initialized y.cls ∈ gWs ∧ (y.cls ≠ "java/lang/invoke/MethodHandle" ∧ y.cls ≠ "java/lang/invoke/VarHandle" ∧ (parseMethodDescriptor y.desc).map (fun d => d.parameters.length) = some k)
def gMk (own : String) (idx : Nat) (y : MethodName) : Prop := Cond.methodLink own idx y ∈ gWs ∨ ∃ host, Cond.methodLinkNest own idx y host ∈ gNs
section GR
variable {p : Program} {l : Launch} {e : Env} {R : Room} {s : State} {m : MethodId} {args : Array Value} {below : List Frame} {meth : Method} {c : Code} {H : Heap} {locs : List Loc} {cells slots : Nat} {Q : State → Prop}
variable {cc : ByteArray} {pc nL : Nat} {ls : Array Slot} {rest : List Value} {D : va_G} {A : Nat → Prop} {a : Nat} {H0 : Heap} {cy : Nat → ClassId} {ρ : Nat → Nat} {u : gSt} {own : String} {ret : Option FieldType} {f n : Nat}
theorem g_getV (X : gX own cc nL ret f n R cells slots cy D ρ A p s m args meth c) (hP : va_P D gCl (gW cy ρ u) H) {idx ci k : Nat} (hL : gLk own idx ci k) (ha : gK a = ci) (hdg : decode cc pc = .ok (.getfield idx, 3))
    (kk : W p l e R s m args below meth c H locs cells slots Q (F0 m (pc + 3) ls (gVal ρ u a k :: rest))) : W p l e R s m args below meth c H locs cells slots Q (F0 m pc ls (.ref (ρ a) :: rest)) := by
  obtain ⟨hx, hb, hml, hr, hown, hts, hns, hK, hD, -⟩ := X
  obtain ⟨C, T, N, Y, hc, hk, hN, hin, h1, hY, hnm, hl⟩ := hL
  have hv : ((List.range (gNf ci)).map (gVal ρ u a))[k]? = some (gVal ρ u a k) := by
    rw [List.getElem?_map, List.getElem?_range (by omega)]
    rfl
  have he := g_obj (cy := cy) (ρ := ρ) (u := u) ha (by have := g_cl hc; omega)
  rcases hl with hl | ⟨host, hl⟩
  · exact va_get (D := D) hx hb hts hin hown hK hP a he hc k hk (hts _ hl) (fun x h => by rw [h1] at h; exact h) hv hdg kk
  · exact va_getN (D := D) hx hb hts hin hown hK hP a he hc k hk (va_Nw.use rfl (hns _ hl)) (fun x h => by rw [h1] at h; exact h) hv hdg kk
theorem g_getI (X : gX own cc nL ret f n R cells slots cy D ρ A p s m args meth c) (hP : va_P D gCl (gW cy ρ u) H) {idx ci k : Nat} (hL : gLk own idx ci k) (ha : gK a = ci) (hf : gFk ci k = 0) (hdg : decode cc pc = .ok (.getfield idx, 3))
    (kk : W p l e R s m args below meth c H locs cells slots Q (F0 m (pc + 3) ls (.int (u.1 a k) :: rest))) : W p l e R s m args below meth c H locs cells slots Q (F0 m pc ls (.ref (ρ a) :: rest)) := by
  refine g_getV X hP hL ha hdg ?_
  unfold gVal
  rw [ha, if_pos hf]
  exact kk
theorem g_getL (X : gX own cc nL ret f n R cells slots cy D ρ A p s m args meth c) (hP : va_P D gCl (gW cy ρ u) H) {idx ci k : Nat} (hL : gLk own idx ci k) (ha : gK a = ci) (hf : gFk ci k = 1) (hdg : decode cc pc = .ok (.getfield idx, 3))
    (kk : W p l e R s m args below meth c H locs cells slots Q (F0 m (pc + 3) ls (.long (u.2.1 a k) :: rest))) : W p l e R s m args below meth c H locs cells slots Q (F0 m pc ls (.ref (ρ a) :: rest)) := by
  refine g_getV X hP hL ha hdg ?_
  unfold gVal
  rw [ha, if_neg (by omega), if_pos hf]
  exact kk
theorem g_getR (X : gX own cc nL ret f n R cells slots cy D ρ A p s m args meth c) (hP : va_P D gCl (gW cy ρ u) H) {idx ci k b : Nat} (hL : gLk own idx ci k) (ha : gK a = ci) (hf : gFk ci k = 2) (hb : gFR a k = some b) (hdg : decode cc pc = .ok (.getfield idx, 3))
    (kk : W p l e R s m args below meth c H locs cells slots Q (F0 m (pc + 3) ls (.ref (ρ b) :: rest))) : W p l e R s m args below meth c H locs cells slots Q (F0 m pc ls (.ref (ρ a) :: rest)) := by
  refine g_getV X hP hL ha hdg ?_
  unfold gVal
  rw [ha, if_neg (by omega), if_neg (by omega), hb]
  exact kk
theorem g_putV (X : gX own cc nL ret f n R cells slots cy D ρ A p s m args meth c) (hP : va_P D gCl (gW cy ρ u) H) (hS : va_S A H0 H locs) {idx ci k : Nat} {v : Value} {ty : FieldType} (hL : gLk own idx ci k) (ha : gK a = ci) (hfin : ∀ T N C, gCl[ci]? = some (C, T, N) → (T k).2.2.2 = false ∧ parseFieldDescriptor (T k).2.2.1 = some ty) (hn : narrow ty v = v) (hfit : fits ty v = true) (hdg : decode cc pc = .ok (.putfield idx, 3))
    (kk : ∀ (H1 : Heap) (locs1 : List Loc), va_P D gCl ((gW cy ρ u).set a (ρ a, .inr (ci, ((List.range (gNf ci)).map (gVal ρ u a)).set k v))) H1 → va_S A H0 H1 locs1 → W p l e R s m args below meth c H1 locs1 cells slots Q (F0 m (pc + 3) ls rest)) : W p l e R s m args below meth c H locs cells slots Q (F0 m pc ls (v :: .ref (ρ a) :: rest)) := by
  obtain ⟨hx, hb, hml, hr, hown, hts, hns, hK, hD, -⟩ := X
  obtain ⟨C, T, N, Y, hc, hk, hN, hin, h1, hY, hnm, hl⟩ := hL
  have he := g_obj (cy := cy) (ρ := ρ) (u := u) ha (by have := g_cl hc; omega)
  have hD' := gD_D (cy := cy) (u := u) hD
  have hlen : k < ((List.range (gNf ci)).map (gVal ρ u a)).length := by simp; omega
  rcases hl with hl | ⟨host, hl⟩
  · exact va_put (D := D) hx hb hts hin Y hY hnm hown hK hP hD' hS a he hc k hk (hts _ hl) (fun x h => by rw [h1] at h; exact h) (hfin T N C hc).1 (hfin T N C hc).2 hn hfit hlen hdg (fun H1 l1 hp _ hs => kk H1 l1 hp hs)
  · exact va_putN (D := D) hx hb hts hin Y hY hnm hown hK hP hD' hS a he hc k hk (va_Nw.use rfl (hns _ hl)) (fun x h => by rw [h1] at h; exact h) (hfin T N C hc).1 (hfin T N C hc).2 hn hfit hlen hdg (fun H1 l1 hp _ hs => kk H1 l1 hp hs)
theorem g_putI (X : gX own cc nL ret f n R cells slots cy D ρ A p s m args meth c) (hP : va_P D gCl (gW cy ρ u) H) (hS : va_S A H0 H locs) {idx ci k : Nat} {v : Int32} (hL : gLk own idx ci k) (ha : gK a = ci) (hf : gFk ci k = 0) (hfin : ∀ T N C, gCl[ci]? = some (C, T, N) → (T k).2.2.2 = false ∧ parseFieldDescriptor (T k).2.2.1 = some .int) (hdg : decode cc pc = .ok (.putfield idx, 3))
    (kk : ∀ (H1 : Heap) (locs1 : List Loc), va_P D gCl (gW cy ρ (gsF u a k v)) H1 → va_S A H0 H1 locs1 → W p l e R s m args below meth c H1 locs1 cells slots Q (F0 m (pc + 3) ls rest)) : W p l e R s m args below meth c H locs cells slots Q (F0 m pc ls (.int v :: .ref (ρ a) :: rest)) := by
  have hc : ci < 20 := by
    obtain ⟨C, T, N, Y, hc, -⟩ := hL
    have := g_cl hc
    omega
  refine g_putV X hP hS hL ha hfin rfl rfl hdg (fun H1 l1 hp hs => kk H1 l1 ?_ hs)
  rw [← gW_F ha hc hf]
  exact hp
theorem g_putZ (X : gX own cc nL ret f n R cells slots cy D ρ A p s m args meth c) (hP : va_P D gCl (gW cy ρ u) H) (hS : va_S A H0 H locs) {idx ci k : Nat} {v : Int32} (hL : gLk own idx ci k) (ha : gK a = ci) (hf : gFk ci k = 0) (hfin : ∀ T N C, gCl[ci]? = some (C, T, N) → (T k).2.2.2 = false ∧ parseFieldDescriptor (T k).2.2.1 = some .boolean) (hz : gZ v = true) (hdg : decode cc pc = .ok (.putfield idx, 3))
    (kk : ∀ (H1 : Heap) (locs1 : List Loc), va_P D gCl (gW cy ρ (gsF u a k v)) H1 → va_S A H0 H1 locs1 → W p l e R s m args below meth c H1 locs1 cells slots Q (F0 m (pc + 3) ls rest)) : W p l e R s m args below meth c H locs cells slots Q (F0 m pc ls (.int v :: .ref (ρ a) :: rest)) := by
  have hc : ci < 20 := by
    obtain ⟨C, T, N, Y, hc, -⟩ := hL
    have := g_cl hc
    omega
  have hn : narrow .boolean (.int v) = .int v ∧ fits .boolean (.int v) = true := by
    rcases gZ_of hz with rfl | rfl <;> exact ⟨by decide +kernel, by decide +kernel⟩
  refine g_putV X hP hS hL ha hfin hn.1 hn.2 hdg (fun H1 l1 hp hs => kk H1 l1 ?_ hs)
  rw [← gW_F ha hc hf]
  exact hp
theorem g_putL (X : gX own cc nL ret f n R cells slots cy D ρ A p s m args meth c) (hP : va_P D gCl (gW cy ρ u) H) (hS : va_S A H0 H locs) {idx ci k : Nat} {v : Int64} (hL : gLk own idx ci k) (ha : gK a = ci) (hf : gFk ci k = 1) (hfin : ∀ T N C, gCl[ci]? = some (C, T, N) → (T k).2.2.2 = false ∧ parseFieldDescriptor (T k).2.2.1 = some .long) (hdg : decode cc pc = .ok (.putfield idx, 3))
    (kk : ∀ (H1 : Heap) (locs1 : List Loc), va_P D gCl (gW cy ρ (gsG u a k v)) H1 → va_S A H0 H1 locs1 → W p l e R s m args below meth c H1 locs1 cells slots Q (F0 m (pc + 3) ls rest)) : W p l e R s m args below meth c H locs cells slots Q (F0 m pc ls (.long v :: .ref (ρ a) :: rest)) := by
  have hc : ci < 20 := by
    obtain ⟨C, T, N, Y, hc, -⟩ := hL
    have := g_cl hc
    omega
  refine g_putV X hP hS hL ha hfin rfl rfl hdg (fun H1 l1 hp hs => kk H1 l1 ?_ hs)
  rw [← gW_G ha hc hf]
  exact hp
theorem g_iald (X : gX own cc nL ret f n R cells slots cy D ρ A p s m args meth c) (hP : va_P D gCl (gW cy ρ u) H) {i : Int32} (ha : gK a = 22) (hin : gIn i (gLen a) = true) (hdg : decode cc pc = .ok (.iaload, 1))
    (kk : W p l e R s m args below meth c H locs cells slots Q (F0 m (pc + 1) ls (.int (u.2.2.1 a (gIx i)) :: rest))) : W p l e R s m args below meth c H locs cells slots Q (F0 m pc ls (.int i :: .ref (ρ a) :: rest)) := by
  obtain ⟨hx, hb, hml, hr, hown, hts, hns, hK, hD, -⟩ := X
  exact va_iald hx hb hK hP a 2 (g_arr ha (by omega) (by omega)) rfl (gIn_in hin) hdg kk
theorem g_bald (X : gX own cc nL ret f n R cells slots cy D ρ A p s m args meth c) (hP : va_P D gCl (gW cy ρ u) H) {i : Int32} (ha : gK a = 20) (hin : gIn i (gLen a) = true) (hdg : decode cc pc = .ok (.baload, 1))
    (kk : W p l e R s m args below meth c H locs cells slots Q (F0 m (pc + 1) ls (.int (u.2.2.1 a (gIx i)) :: rest))) : W p l e R s m args below meth c H locs cells slots Q (F0 m pc ls (.int i :: .ref (ρ a) :: rest)) := by
  obtain ⟨hx, hb, hml, hr, hown, hts, hns, hK, hD, -⟩ := X
  exact va_bald hx hb hK hP a 0 (g_arr ha (by omega) (by omega)) rfl (gIn_in hin) hdg kk
theorem g_cald (X : gX own cc nL ret f n R cells slots cy D ρ A p s m args meth c) (hP : va_P D gCl (gW cy ρ u) H) {i : Int32} (ha : gK a = 21) (hin : gIn i (gLen a) = true) (hdg : decode cc pc = .ok (.caload, 1))
    (kk : W p l e R s m args below meth c H locs cells slots Q (F0 m (pc + 1) ls (.int (u.2.2.1 a (gIx i)) :: rest))) : W p l e R s m args below meth c H locs cells slots Q (F0 m pc ls (.int i :: .ref (ρ a) :: rest)) := by
  obtain ⟨hx, hb, hml, hr, hown, hts, hns, hK, hD, -⟩ := X
  exact va_cald hx hb hK hP a 1 (g_arr ha (by omega) (by omega)) rfl (gIn_in hin) hdg kk
theorem g_zald (X : gX own cc nL ret f n R cells slots cy D ρ A p s m args meth c) (hP : va_P D gCl (gW cy ρ u) H) {i : Int32} (ha : gK a = 23) (hin : gIn i (gLen a) = true) (hdg : decode cc pc = .ok (.baload, 1))
    (kk : W p l e R s m args below meth c H locs cells slots Q (F0 m (pc + 1) ls (.int (u.2.2.1 a (gIx i)) :: rest))) : W p l e R s m args below meth c H locs cells slots Q (F0 m pc ls (.int i :: .ref (ρ a) :: rest)) := by
  obtain ⟨hx, hb, hml, hr, hown, hts, hns, hK, hD, -⟩ := X
  exact va_zald hx hb hK hP a 3 (g_arr ha (by omega) (by omega)) rfl (gIn_in hin) hdg kk
theorem g_lald (X : gX own cc nL ret f n R cells slots cy D ρ A p s m args meth c) (hP : va_P D gCl (gW cy ρ u) H) {i : Int32} (ha : gK a = 24) (hin : gIn i (gLen a) = true) (hdg : decode cc pc = .ok (.laload, 1))
    (kk : W p l e R s m args below meth c H locs cells slots Q (F0 m (pc + 1) ls (.long (u.2.2.2 a (gIx i)) :: rest))) : W p l e R s m args below meth c H locs cells slots Q (F0 m pc ls (.int i :: .ref (ρ a) :: rest)) := by
  obtain ⟨hx, hb, hml, hr, hown, hts, hns, hK, hD, -⟩ := X
  exact va_lald hx hb hK hP a 4 (g_arrL ha) rfl (gIn_in hin) hdg kk
theorem g_aald (X : gX own cc nL ret f n R cells slots cy D ρ A p s m args meth c) (hP : va_P D gCl (gW cy ρ u) H) {i : Int32} {b : Nat} (ha : gK a = 25) (hin : gIn i (gLen a) = true) (hv : gAR a (gIx i) = some b) (hdg : decode cc pc = .ok (.aaload, 1))
    (kk : W p l e R s m args below meth c H locs cells slots Q (F0 m (pc + 1) ls (.ref (ρ b) :: rest))) : W p l e R s m args below meth c H locs cells slots Q (F0 m pc ls (.int i :: .ref (ρ a) :: rest)) := by
  obtain ⟨hx, hb, hml, hr, hown, hts, hns, hK, hD, -⟩ := X
  have hin' := gIn_in hin
  have hlt : i.toNatClampNeg < gLen a := Nat.not_le.mp fun q => hin' (Or.inr q)
  have hv' : (gAR a i.toNatClampNeg).map ρ = some (ρ b) := by rw [show i.toNatClampNeg = gIx i from rfl, hv]; rfl
  exact W.aald (v := va_rf ((gAR a i.toNatClampNeg).map ρ)) (ty := .array .int) hx hb (hP a _ (g_arrR ha)) ((hK.2 5 _ rfl).1 (gLen a) (fun j => va_rf ((gAR a j).map ρ))) rfl (fun q => by cases q) (by show ¬ (i < 0 ∨ (arrV _ _ _).slots.size ≤ _); rw [arrV_size]; exact hin') (by show (arrV _ _ _).slots[_]? = _; rw [arrV_read _ _ hlt]) rfl rfl hdg (by rw [hv']; exact kk)
theorem g_alen (X : gX own cc nL ret f n R cells slots cy D ρ A p s m args meth c) (hP : va_P D gCl (gW cy ρ u) H) {v : Int32} (ha : gK a = 22) (hv : Int32.ofNat (gLen a) = v) (hdg : decode cc pc = .ok (.arraylength, 1))
    (kk : W p l e R s m args below meth c H locs cells slots Q (F0 m (pc + 1) ls (.int v :: rest))) : W p l e R s m args below meth c H locs cells slots Q (F0 m pc ls (.ref (ρ a) :: rest)) := by
  obtain ⟨hx, hb, hml, hr, hown, hts, hns, hK, hD, -⟩ := X
  exact va_alen hx hb hK hP a 2 (g_arr ha (by omega) (by omega)) rfl hv hdg kk
theorem g_alenL (X : gX own cc nL ret f n R cells slots cy D ρ A p s m args meth c) (hP : va_P D gCl (gW cy ρ u) H) {v : Int32} (ha : gK a = 24) (hv : Int32.ofNat (gLen a) = v) (hdg : decode cc pc = .ok (.arraylength, 1))
    (kk : W p l e R s m args below meth c H locs cells slots Q (F0 m (pc + 1) ls (.int v :: rest))) : W p l e R s m args below meth c H locs cells slots Q (F0 m pc ls (.ref (ρ a) :: rest)) := by
  obtain ⟨hx, hb, hml, hr, hown, hts, hns, hK, hD, -⟩ := X
  exact va_alen hx hb hK hP a 4 (g_arrL ha) rfl hv hdg kk
theorem g_iast (X : gX own cc nL ret f n R cells slots cy D ρ A p s m args meth c) (hP : va_P D gCl (gW cy ρ u) H) (hS : va_S A H0 H locs) {i v : Int32} (ha : gK a = 22) (hin : gIn i (gLen a) = true) (hdg : decode cc pc = .ok (.iastore, 1))
    (kk : ∀ (H1 : Heap) (locs1 : List Loc), va_P D gCl (gW cy ρ (gsA u a (gIx i) v)) H1 → va_S A H0 H1 locs1 → W p l e R s m args below meth c H1 locs1 cells slots Q (F0 m (pc + 1) ls rest)) : W p l e R s m args below meth c H locs cells slots Q (F0 m pc ls (.int v :: .int i :: .ref (ρ a) :: rest)) := by
  obtain ⟨hx, hb, hml, hr, hown, hts, hns, hK, hD, -⟩ := X
  refine va_iast hx hb hK hP (gD_D hD) hS a 2 (g_arr ha (by omega) (by omega)) rfl (gIn_in hin) hdg (fun H1 l1 hp _ hs => kk H1 l1 ?_ hs)
  rw [← gW_A ha (by omega) (by omega)]
  exact hp
theorem g_bast (X : gX own cc nL ret f n R cells slots cy D ρ A p s m args meth c) (hP : va_P D gCl (gW cy ρ u) H) (hS : va_S A H0 H locs) {i v : Int32} (ha : gK a = 20) (hin : gIn i (gLen a) = true) (hdg : decode cc pc = .ok (.bastore, 1))
    (kk : ∀ (H1 : Heap) (locs1 : List Loc), va_P D gCl (gW cy ρ (gsA u a (gIx i) (v.toInt8.toInt32))) H1 → va_S A H0 H1 locs1 → W p l e R s m args below meth c H1 locs1 cells slots Q (F0 m (pc + 1) ls rest)) : W p l e R s m args below meth c H locs cells slots Q (F0 m pc ls (.int v :: .int i :: .ref (ρ a) :: rest)) := by
  obtain ⟨hx, hb, hml, hr, hown, hts, hns, hK, hD, -⟩ := X
  refine va_bast hx hb hK hP (gD_D hD) hS a 0 (g_arr ha (by omega) (by omega)) rfl (gIn_in hin) hdg (fun H1 l1 hp _ hs => kk H1 l1 ?_ hs)
  rw [← gW_A ha (by omega) (by omega), ← vp_nar_byte]
  exact hp
theorem g_zast (X : gX own cc nL ret f n R cells slots cy D ρ A p s m args meth c) (hP : va_P D gCl (gW cy ρ u) H) (hS : va_S A H0 H locs) {i v : Int32} (ha : gK a = 23) (hin : gIn i (gLen a) = true) (hz : gZ v = true) (hdg : decode cc pc = .ok (.bastore, 1))
    (kk : ∀ (H1 : Heap) (locs1 : List Loc), va_P D gCl (gW cy ρ (gsA u a (gIx i) v)) H1 → va_S A H0 H1 locs1 → W p l e R s m args below meth c H1 locs1 cells slots Q (F0 m (pc + 1) ls rest)) : W p l e R s m args below meth c H locs cells slots Q (F0 m pc ls (.int v :: .int i :: .ref (ρ a) :: rest)) := by
  obtain ⟨hx, hb, hml, hr, hown, hts, hns, hK, hD, -⟩ := X
  have hn : vp_nar .boolean v = v := by
    rcases gZ_of hz with rfl | rfl <;> decide +kernel
  refine va_zast hx hb hK hP (gD_D hD) hS a 3 (g_arr ha (by omega) (by omega)) rfl (gIn_in hin) hdg (fun H1 l1 hp _ hs => kk H1 l1 ?_ hs)
  rw [← gW_A ha (by omega) (by omega)]
  rw [hn] at hp
  exact hp
theorem g_cast (X : gX own cc nL ret f n R cells slots cy D ρ A p s m args meth c) (hP : va_P D gCl (gW cy ρ u) H) (hS : va_S A H0 H locs) {i v : Int32} (ha : gK a = 21) (hin : gIn i (gLen a) = true) (hdg : decode cc pc = .ok (.castore, 1))
    (kk : ∀ (H1 : Heap) (locs1 : List Loc), va_P D gCl (gW cy ρ (gsA u a (gIx i) (v.toUInt32.toUInt16.toUInt32.toInt32))) H1 → va_S A H0 H1 locs1 → W p l e R s m args below meth c H1 locs1 cells slots Q (F0 m (pc + 1) ls rest)) : W p l e R s m args below meth c H locs cells slots Q (F0 m pc ls (.int v :: .int i :: .ref (ρ a) :: rest)) := by
  obtain ⟨hx, hb, hml, hr, hown, hts, hns, hK, hD, -⟩ := X
  refine va_cast hx hb hK hP (gD_D hD) hS a 1 (g_arr ha (by omega) (by omega)) rfl (gIn_in hin) hdg (fun H1 l1 hp _ hs => kk H1 l1 ?_ hs)
  rw [← gW_A ha (by omega) (by omega), ← vp_nar_char]
  exact hp
theorem g_last (X : gX own cc nL ret f n R cells slots cy D ρ A p s m args meth c) (hP : va_P D gCl (gW cy ρ u) H) (hS : va_S A H0 H locs) {i : Int32} {v : Int64} (ha : gK a = 24) (hin : gIn i (gLen a) = true) (hdg : decode cc pc = .ok (.lastore, 1))
    (kk : ∀ (H1 : Heap) (locs1 : List Loc), va_P D gCl (gW cy ρ (gsL u a (gIx i) v)) H1 → va_S A H0 H1 locs1 → W p l e R s m args below meth c H1 locs1 cells slots Q (F0 m (pc + 1) ls rest)) : W p l e R s m args below meth c H locs cells slots Q (F0 m pc ls (.long v :: .int i :: .ref (ρ a) :: rest)) := by
  obtain ⟨hx, hb, hml, hr, hown, hts, hns, hK, hD, -⟩ := X
  refine va_last hx hb hK hP (gD_D hD) hS a 4 (g_arrL ha) rfl (gIn_in hin) hdg (fun H1 l1 hp _ hs => kk H1 l1 ?_ hs)
  rw [← gW_L ha]
  exact hp
/-! calls -/
theorem gB_pre (X : gX own cc nL ret f n R cells slots cy D ρ A p s m args meth c) (hP : va_P D gCl (gW cy ρ u) H) {U : State} (hU : U.heap = H) (hW : s.WarmedH U.vm) : gB cy D ρ u U := by
  obtain ⟨hx, hb, hml, hr, hown, hts, hns, hK, hD, -⟩ := X
  exact ⟨by rw [hU]; exact hP, va_K.moved hW.alike hK, gNs_warm hW hns⟩
theorem gWs_in {y : MethodName} {cy' : ByteArray} {nl : Nat} {rt : Option FieldType} (h : Cond.code y cy' nl rt ∈ gWs) : GoodIn gWs (Cond.code y cy' nl rt :: gWs) := fun w hw => by
  rcases List.mem_cons.mp hw with rfl | hw
  · exact ⟨h, gWs_good h⟩
  · exact ⟨hw, gWs_good hw⟩
theorem g_runV (X : gX own cc nL ret f n R cells slots cy D ρ A p s m args meth c) (hP : va_P D gCl (gW cy ρ u) H) {y : MethodName} {bytes : ByteArray} {maxL idx k ci f' n' : Nat} {ret' : Option FieldType} {As : List Value} {st : List Value} {Qc : Array Value → State → Outcome → State → Prop}
    (hM : Met l y (.code y bytes maxL ret' :: gWs) (gRm f' n') (va_Pc (.ref (ρ a) :: As) (gB cy D ρ u)) Qc 0 0 A) (hy : gMi y bytes maxL ret' k ci) (hl : gMk own idx y) (ha : gK a = ci) (hk : As.length = k) (hf : f' + 1 ≤ f) (hn : 8 + (maxL + 11) + n' ≤ n) (hsz : ls.size = nL) (hst : st = As.reverse ++ .ref (ρ a) :: rest) (hcat : (rest.map fun v => v.category).sum ≤ 8) (hdg : decode cc pc = .ok (.invokevirtual idx, 3)) :
    va_Run p l e R s m args below meth c H locs cells slots 0 0 (F0 m pc ls st) rest (Qc (Value.ref (ρ a) :: As).toArray) A := by
  have X' := X
  obtain ⟨hx, hb, hml, hr, hown, hts, hns, hK, hD, ⟨hr1, hr2, hr3, hr4⟩, -⟩ := X
  obtain ⟨hcode, hins, hsel, hini, hd, T, N, hc⟩ := hy
  have he := g_obj (cy := cy) (ρ := ρ) (u := u) ha (by have := g_cl hc; omega)
  have hrc := va_recv hK hP hc he
  have hpre : PreV s H y.cls (ρ a) (va_Pc (.ref (ρ a) :: As) (gB cy D ρ u)) As := ⟨gB_blind, hrc, fun U hU hW => ⟨rfl, gB_pre X' hP hU hW⟩⟩
  have hroom : (gRm f' n').frames + 1 ≤ R.frames ∧ 8 + (maxL + 11) + (gRm f' n').locals ≤ R.locals := ⟨Nat.le_trans hf hr1, Nat.le_trans hn hr2⟩
  rcases hl with hl | ⟨host, hl⟩
  · exact va_runV (Ts := gWs) (rm := gRm f' n') (n := k) ⟨hx, hb, hml, hown, hts⟩ hM ⟨callB_of k hts (gWs_in hcode) rfl rfl rfl (hts _ hini) (hts _ hl) hd hroom, hts _ hins, hts _ hsel⟩ hpre rfl hk hsz hst (lv_room hcat) hdg ⟨hr3, hr4⟩
  · exact va_runVN (Ts := gWs) (rm := gRm f' n') (n := k) ⟨hx, hb, hml, hown, hts⟩ hM ⟨va_cnB k hts (gWs_in hcode) rfl rfl rfl (hns _ hl) (hts _ hini) hd hroom, hts _ hins, hts _ hsel⟩ hpre rfl hk hsz hst (lv_room hcat) hdg ⟨hr3, hr4⟩
theorem g_runS (X : gX own cc nL ret f n R cells slots cy D ρ A p s m args meth c) (hP : va_P D gCl (gW cy ρ u) H) {y : MethodName} {bytes : ByteArray} {maxL idx k f' n' : Nat} {ret' : Option FieldType} {As : List Value} {st : List Value} {Qc : Array Value → State → Outcome → State → Prop}
    (hM : Met l y (.code y bytes maxL ret' :: gWs) (gRm f' n') (va_Pc As (gB cy D ρ u)) Qc 0 0 A) (hy : gMs y bytes maxL ret' k) (hl : gMk own idx y) (hk : As.length = k) (hf : f' + 1 ≤ f) (hn : 8 + (maxL + 11) + n' ≤ n) (hsz : ls.size = nL) (hst : st = As.reverse ++ rest) (hcat : (rest.map fun v => v.category).sum ≤ 8) (hdg : decode cc pc = .ok (.invokestatic idx, 3)) :
    va_Run p l e R s m args below meth c H locs cells slots 0 0 (F0 m pc ls st) rest (Qc As.toArray) A := by
  have X' := X
  obtain ⟨hx, hb, hml, hr, hown, hts, hns, hK, hD, ⟨hr1, hr2, hr3, hr4⟩, -⟩ := X
  obtain ⟨hcode, hsta, hini, hd⟩ := hy
  have hpre : PreS s H (va_Pc As (gB cy D ρ u)) As := ⟨gB_blind, fun U hU hW => ⟨rfl, gB_pre X' hP hU hW⟩⟩
  have hroom : (gRm f' n').frames + 1 ≤ R.frames ∧ 8 + (maxL + 11) + (gRm f' n').locals ≤ R.locals := ⟨Nat.le_trans hf hr1, Nat.le_trans hn hr2⟩
  rcases hl with hl | ⟨host, hl⟩
  · exact va_runS (Ts := gWs) (rm := gRm f' n') (n := k) ⟨hx, hb, hml, hown, hts⟩ hM ⟨callB_of k hts (gWs_in hcode) rfl rfl rfl (hts _ hini) (hts _ hl) hd hroom, hts _ hsta⟩ hpre rfl hk hsz hst (lv_room hcat) hdg ⟨hr3, hr4⟩
  · exact va_runSN (Ts := gWs) (rm := gRm f' n') (n := k) ⟨hx, hb, hml, hown, hts⟩ hM ⟨va_cnB k hts (gWs_in hcode) rfl rfl rfl (hns _ hl) (hts _ hini) hd hroom, hts _ hsta, trivial⟩ hpre rfl hk hsz hst (lv_room hcat) hdg ⟨hr3, hr4⟩
theorem g_backI {a' : Array Value} {st0 : List Value} {r : Int32} {u' : gSt} (hr : va_Run p l e R s m args below meth c H locs cells slots 0 0 (F0 m pc ls st0) rest (va_Qi (fun r1 v => r1 = r ∧ v = u') (gB cy D ρ) A a') A) (hS : va_S A H0 H locs)
    (kk : ∀ (H1 : Heap) (locs1 : List Loc), va_P D gCl (gW cy ρ u') H1 → va_S A H0 H1 locs1 → W p l e R s m args below meth c H1 locs1 cells slots Q (F0 m (pc + 3) ls (.int r :: rest))) : W p l e R s m args below meth c H locs cells slots Q (F0 m pc ls st0) := by
  refine va_calli hr hS (fun q _ h => h) (fun q h => h) (fun r1 v t H1 l1 ht _ hp hB _ _ hS1 => ?_)
  obtain ⟨rfl, rfl⟩ := hp
  exact kk H1 l1 (by rw [← ht]; exact hB.1) hS1
theorem g_backL {a' : Array Value} {st0 : List Value} {r : Int64} {u' : gSt} (hr : va_Run p l e R s m args below meth c H locs cells slots 0 0 (F0 m pc ls st0) rest (va_Ql (fun r1 v => r1 = r ∧ v = u') (gB cy D ρ) A a') A) (hS : va_S A H0 H locs)
    (kk : ∀ (H1 : Heap) (locs1 : List Loc), va_P D gCl (gW cy ρ u') H1 → va_S A H0 H1 locs1 → W p l e R s m args below meth c H1 locs1 cells slots Q (F0 m (pc + 3) ls (.long r :: rest))) : W p l e R s m args below meth c H locs cells slots Q (F0 m pc ls st0) := by
  refine va_calll hr hS (fun q _ h => h) (fun q h => h) (fun r1 v t H1 l1 ht _ hp hB _ _ hS1 => ?_)
  obtain ⟨rfl, rfl⟩ := hp
  exact kk H1 l1 (by rw [← ht]; exact hB.1) hS1
theorem g_backV {a' : Array Value} {st0 : List Value} {u' : gSt} (hr : va_Run p l e R s m args below meth c H locs cells slots 0 0 (F0 m pc ls st0) rest (va_Qv (fun v => v = u') (gB cy D ρ) A a') A) (hS : va_S A H0 H locs)
    (kk : ∀ (H1 : Heap) (locs1 : List Loc), va_P D gCl (gW cy ρ u') H1 → va_S A H0 H1 locs1 → W p l e R s m args below meth c H1 locs1 cells slots Q (F0 m (pc + 3) ls rest)) : W p l e R s m args below meth c H locs cells slots Q (F0 m pc ls st0) := by
  refine va_callv hr hS (fun q _ h => h) (fun q h => h) (fun v t H1 l1 ht _ hp hB _ _ hS1 => ?_)
  subst hp
  exact kk H1 l1 (by rw [← ht]; exact hB.1) hS1
/-! ends -/
theorem g_iret (X : gX own cc nL (some .int) f n R cells slots cy D ρ A p s m args meth c) (hP : va_P D gCl (gW cy ρ u) H) (hS : va_S A s.heap H locs) {v : Int32} (hdg : decode cc pc = .ok (.ireturn, 1)) : W p l e R s m args below meth c H locs cells slots (MQ below (va_Qi (fun r1 v1 => r1 = v ∧ v1 = u) (gB cy D ρ) A) args s cells slots A) (F0 m pc ls [.int v]) := by
  have X' := X
  obtain ⟨hx, hb, hml, hr, hown, hts, hns, hK, hD, -, hlk⟩ := X
  exact W.iret hx hb hr (fun t ht hW => ⟨⟨v, u, rfl, ⟨rfl, rfl⟩, gB_pre X' hP ht hW⟩, hS.F ht⟩) hS.2.2 hdg hlk
theorem g_zret (X : gX own cc nL (some .boolean) f n R cells slots cy D ρ A p s m args meth c) (hP : va_P D gCl (gW cy ρ u) H) (hS : va_S A s.heap H locs) {v : Int32} (hz : gZ v = true) (hdg : decode cc pc = .ok (.ireturn, 1)) : W p l e R s m args below meth c H locs cells slots (MQ below (va_Qi (fun r1 v1 => r1 = v ∧ v1 = u) (gB cy D ρ) A) args s cells slots A) (F0 m pc ls [.int v]) := by
  have X' := X
  obtain ⟨hx, hb, hml, hr, hown, hts, hns, hK, hD, -, hlk⟩ := X
  have hn : narrow .boolean (.int v) = .int v := by
    rcases gZ_of hz with rfl | rfl <;> decide +kernel
  exact W.zret hx hb hr hn (fun t ht hW => ⟨⟨v, u, rfl, ⟨rfl, rfl⟩, gB_pre X' hP ht hW⟩, hS.F ht⟩) hS.2.2 hdg hlk
theorem g_lret (X : gX own cc nL (some .long) f n R cells slots cy D ρ A p s m args meth c) (hP : va_P D gCl (gW cy ρ u) H) (hS : va_S A s.heap H locs) {v : Int64} (hdg : decode cc pc = .ok (.lreturn, 1)) : W p l e R s m args below meth c H locs cells slots (MQ below (va_Ql (fun r1 v1 => r1 = v ∧ v1 = u) (gB cy D ρ) A) args s cells slots A) (F0 m pc ls [.long v]) := by
  have X' := X
  obtain ⟨hx, hb, hml, hr, hown, hts, hns, hK, hD, -, hlk⟩ := X
  exact W.lret hx hb hr (fun t ht hW => ⟨⟨v, u, rfl, ⟨rfl, rfl⟩, gB_pre X' hP ht hW⟩, hS.F ht⟩) hS.2.2 hdg hlk
theorem g_vret (X : gX own cc nL none f n R cells slots cy D ρ A p s m args meth c) (hP : va_P D gCl (gW cy ρ u) H) (hS : va_S A s.heap H locs) (hdg : decode cc pc = .ok (.return_, 1)) : W p l e R s m args below meth c H locs cells slots (MQ below (va_Qv (fun v1 => v1 = u) (gB cy D ρ) A) args s cells slots A) (F0 m pc ls []) := by
  have X' := X
  obtain ⟨hx, hb, hml, hr, hown, hts, hns, hK, hD, -, hlk⟩ := X
  exact W.vret hx hb hr (fun t ht hW => ⟨⟨u, rfl, rfl, gB_pre X' hP ht hW⟩, hS.F ht⟩) hS.2.2 hdg hlk
/-- a contract out of a walk from the entry -/
theorem g_met {y : MethodName} {maxL : Nat} {Qc : Array Value → State → Outcome → State → Prop} {av : List Value} (hy : plainName y.cls = true) (hD : gD ρ A) (hav : (lg_sl av).length ≤ maxL)
    (body : ∀ (p : Program) (e : Env) (s : State) (m : MethodId) (below : List Frame) (meth : Method) (c : Code) (ls : Array Slot), gX y.cls cc maxL ret f n (gRm f n) 0 0 cy D ρ A p s m av.toArray meth c → lv_has ls maxL (lv_args 0 av) → va_P D gCl (gW cy ρ u) s.heap → W p l e (gRm f n) s m av.toArray below meth c s.heap [] 0 0 (MQ below Qc av.toArray s 0 0 A) (F0 m 0 ls [])) :
    Met l y (.code y cc maxL ret :: gWs) (gRm f n) (va_Pc av (gB cy D ρ u)) Qc 0 0 A := by
  refine Met.ofW (cc := cc) (maxL := maxL) (ret := ret) hy rfl ?_
  intro p e s m args below meth c s₁ B hml hv
  obtain ⟨rfl, hP, hK, hns⟩ := hv
  have hts := atoms_spec (ws := .code y cc maxL ret :: gWs) B.pre
  have hl := lv_entry av (n := maxL) hav
  rw [lg_entry_eq]
  exact body p e s m below meth c _ ⟨B.exec, B.bytes, hml, B.returns, findClass_of_methodNamed B.named, fun w hw => hts w (List.mem_cons_of_mem _ hw), hns, hK, hD, ⟨Nat.le_refl _, Nat.le_refl _, Nat.le_refl _, Nat.le_refl _⟩, B.notSynchronized⟩ hl hP
end GR
