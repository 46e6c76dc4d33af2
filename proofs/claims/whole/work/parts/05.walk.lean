/-! What the printed walks use: the judgement gAt (the machine at a place, with listed locals, stack and moving part), ends, branches, copies; which fields may be written. -/
section GW
variable (p : Program) (l : Launch) (e : Env) (R : Room) (s : State) (m : MethodId) (args : Array Value) (below : List Frame) (meth : Method) (c : Code) (Q : State → Prop) (H0 : Heap) (cells slots : Nat) (cy : Nat → ClassId) (D : va_G) (ρ : Nat → Nat) (A : Nat → Prop)
def gAt (nL pc : Nat) (lo : List (Nat × Value)) (st : List Value) (u : gSt) : Prop := ∀ (ls : Array Slot) (H : Heap) (locs : List Loc), lv_has ls nL lo → va_P D gCl (gW cy ρ u) H → va_S A H0 H locs → W p l e R s m args below meth c H locs cells slots Q (F0 m pc ls st)
def gRtI (cc : ByteArray) (r : Int32) (u : gSt) : Prop := ∀ (pc : Nat) (ls : Array Slot) (H : Heap) (locs : List Loc), decode cc pc = .ok (.ireturn, 1) → va_P D gCl (gW cy ρ u) H → va_S A H0 H locs → W p l e R s m args below meth c H locs cells slots Q (F0 m pc ls [.int r])
def gRtZ (cc : ByteArray) (r : Int32) (u : gSt) : Prop := ∀ (pc : Nat) (ls : Array Slot) (H : Heap) (locs : List Loc), gZ r = true → decode cc pc = .ok (.ireturn, 1) → va_P D gCl (gW cy ρ u) H → va_S A H0 H locs → W p l e R s m args below meth c H locs cells slots Q (F0 m pc ls [.int r])
def gRtL (cc : ByteArray) (r : Int64) (u : gSt) : Prop := ∀ (pc : Nat) (ls : Array Slot) (H : Heap) (locs : List Loc), decode cc pc = .ok (.lreturn, 1) → va_P D gCl (gW cy ρ u) H → va_S A H0 H locs → W p l e R s m args below meth c H locs cells slots Q (F0 m pc ls [.long r])
def gRtV (cc : ByteArray) (u : gSt) : Prop := ∀ (pc : Nat) (ls : Array Slot) (H : Heap) (locs : List Loc), decode cc pc = .ok (.return_, 1) → va_P D gCl (gW cy ρ u) H → va_S A H0 H locs → W p l e R s m args below meth c H locs cells slots Q (F0 m pc ls [])
end GW
theorem gi_t {α : Type} {c : Prop} {d : Decidable c} {a b : Option α} {z : α} (h : c) (hM : @ite (Option α) c d a b = some z) : a = some z := by
  rw [if_pos h] at hM
  exact hM
theorem gi_f {α : Type} {c : Prop} {d : Decidable c} {a b : Option α} {z : α} (h : ¬ c) (hM : @ite (Option α) c d a b = some z) : b = some z := by
  rw [if_neg h] at hM
  exact hM
theorem gs_l {α β γ : Type} {f : α → Option γ} {g : β → Option γ} {x : α} {z : γ} (h : Sum.elim f g (Sum.inl x) = some z) : f x = some z := h
theorem gs_r {α β γ : Type} {f : α → Option γ} {g : β → Option γ} {x : β} {z : γ} (h : Sum.elim f g (Sum.inr x) = some z) : g x = some z := h
theorem gne0 {y : Int32} (h : (!(y == 0)) = true) : ¬ y = 0 := by
  intro e
  subst e
  cases h
theorem gne0L {y : Int64} (h : (!(y == 0)) = true) : ¬ y = 0 := by
  intro e
  subst e
  cases h
theorem gneI {x v : Int32} {k : Int} (h : ¬ x = v) (hk : v.toInt = k) : ¬ x.toInt = k := fun e => h (Int32.toInt_inj.mp (e.trans hk.symm))
/-- System.arraycopy of ints: may it be done, what is behind it -/
def gCpOk (a : Nat) (sp : Int32) (b : Nat) (dp n : Int32) : Bool := decide (0 ≤ sp.toInt ∧ 0 ≤ dp.toInt ∧ 0 ≤ n.toInt ∧ sp.toInt + n.toInt ≤ gLen a ∧ dp.toInt + n.toInt ≤ gLen b)
def gsC (u : gSt) (a : Nat) (sp : Int32) (b : Nat) (dp n : Int32) : gSt := (u.1, u.2.1, fun x => if x = b then va_cpy (u.2.2.1 a) (u.2.2.1 b) (gIx sp) (gIx dp) (gIx n) else u.2.2.1 x, u.2.2.2)
theorem gW_C {cy : Nat → ClassId} {ρ : Nat → Nat} {u : gSt} {a b : Nat} {sp dp n : Int32} (hb : gK b = 22) : (gW cy ρ u).set b (ρ b, .inl (cy 22, gLen b, .inl (va_cpy (u.2.2.1 a) (u.2.2.1 b) (gIx sp) (gIx dp) (gIx n)))) = gW cy ρ (gsC u a sp b dp n) := by
  refine gW_of ?_ (fun x hx => ?_)
  · unfold gCell
    rw [if_neg (by omega), if_neg (by omega), if_neg (by omega), hb]
    simp [gsC]
  · have e : gVal ρ (gsC u a sp b dp n) x = gVal ρ u x := funext fun j => by simp [gVal, gsC]
    unfold gCell
    rw [e]
    simp [gsC, hx]
section GV
variable {p : Program} {l : Launch} {e : Env} {R : Room} {s : State} {m : MethodId} {args : Array Value} {below : List Frame} {meth : Method} {c : Code} {H : Heap} {locs : List Loc} {cells slots : Nat} {Q : State → Prop}
variable {cc : ByteArray} {pc nL : Nat} {ls : Array Slot} {rest : List Value} {D : va_G} {A : Nat → Prop} {H0 : Heap} {cy : Nat → ClassId} {ρ : Nat → Nat} {u : gSt} {own : String} {ret : Option FieldType} {f n : Nat}
theorem g_tabIn (hexec : p.tables.exec = Jvm.exec) (hb : c.code = cc) {dflt lo hi : Int} {offs : Array Int} {len : Nat} {x v : Int32} {off : Int} {tgt : Nat} (hdg : decode cc pc = .ok (.tableswitch dflt lo hi offs, len)) (hv : x = v) (h1 : ¬ v.toInt < lo) (h2 : ¬ hi < v.toInt) (ho : offs[(v.toInt - lo).toNat]? = some off) (ht : (pc : Int) + off = (tgt : Int))
    (k : W p l e R s m args below meth c H locs cells slots Q (F0 m tgt ls rest)) : W p l e R s m args below meth c H locs cells slots Q (F0 m pc ls (.int x :: rest)) := by
  subst hv
  exact lv_tableIn hexec hb hdg h1 h2 ho ht k
theorem g_nn {x : Int32} (h : 0 ≤ x.toInt) : ¬ x < 0 ∧ (x.toNatClampNeg : Int) = x.toInt := by
  refine ⟨fun q => ?_, ?_⟩
  · have := Int32.lt_iff_toInt_lt.mp q
    have e : (0 : Int32).toInt = 0 := by decide
    omega
  · unfold Int32.toNatClampNeg
    omega
theorem g_copy (X : gX own cc nL ret f n R cells slots cy D ρ A p s m args meth c) (hP : va_P D gCl (gW cy ρ u) H) (hS : va_S A H0 H locs) {idx a b : Nat} {sp dp k : Int32} (hl : Cond.methodLink own idx arraycopyName ∈ gWs) (hsz : ls.size = nL) (ha : gK a = 22) (hb' : gK b = 22) (hok : gCpOk a sp b dp k = true) (hcat : (rest.map fun v => v.category).sum ≤ 8) (hf : 1 ≤ f) (hn : 26 ≤ n) (hdg : decode cc pc = .ok (.invokestatic idx, 3))
    (kk : ∀ (H1 : Heap) (locs1 : List Loc), va_P D gCl (gW cy ρ (gsC u a sp b dp k)) H1 → va_S A H0 H1 locs1 → W p l e R s m args below meth c H1 locs1 cells slots Q (F0 m (pc + 3) ls rest)) : W p l e R s m args below meth c H locs cells slots Q (F0 m pc ls (.int k :: .int dp :: .ref (ρ b) :: .int sp :: .ref (ρ a) :: rest)) := by
  obtain ⟨hx, hb, hml, hr, hown, hts, hns, hK, hD, ⟨hr1, hr2, hr3, hr4⟩, -⟩ := X
  have ok := of_decide_eq_true hok
  obtain ⟨o1, o2, o3, o4, o5⟩ := ok
  have n1 := g_nn o1
  have n2 := g_nn o2
  have n3 := g_nn o3
  have e7 : nativeFrameWords "java/lang/System" "arraycopy" 5 = 7 := by decide
  refine va_copyi hx hb (hml.trans hsz.symm) hown (hts _ hl) (hts _ (gWs_at 902 (by decide +kernel) (by decide +kernel))) (hts _ (gWs_at 901 (by decide +kernel) (by decide +kernel))) (hts _ (gWs_at 140 (by decide +kernel) (by decide +kernel))) hK hP (gD_D hD) hS a b 2 2 (g_arr ha (by omega) (by omega)) (g_arr hb' (by omega) (by omega)) rfl rfl rfl n1.1 n2.1 n3.1 (by omega) (by omega) (fun i _ => rfl) (Nat.le_trans hf hr1) (by rw [e7]; omega) hdg (fun H1 l1 hp _ hs => kk H1 l1 ?_ hs)
  rw [← gW_C hb']
  exact hp
theorem g_min (X : gX own cc nL ret f n R cells slots cy D ρ A p s m args meth c) {idx : Nat} {x y : Int32} (hl : Cond.methodLink own idx ⟨"java/lang/Math", "min", "(II)I"⟩ ∈ gWs) (hsz : ls.size = nL) (hcat : (rest.map fun v => v.category).sum ≤ 8) (hf : 1 ≤ f) (hn : 26 ≤ n) (hdg : decode cc pc = .ok (.invokestatic idx, 3))
    (kk : W p l e R s m args below meth c H locs cells slots Q (F0 m (pc + 3) ls (.int (if y < x then y else x) :: rest))) : W p l e R s m args below meth c H locs cells slots Q (F0 m pc ls (.int y :: .int x :: rest)) := by
  obtain ⟨hx, hb, hml, hr, hown, hts, hns, hK, hD, ⟨hr1, hr2, hr3, hr4⟩, -⟩ := X
  have hcode := hts _ (gWs_at 909 (w := Cond.code Lib.Math.min.name Lib.Math.min.code 2 (some .int)) (by decide +kernel) (by decide +kernel))
  exact va_mmin hx hb (hml.trans hsz.symm) hown (hts _ hl) (hts _ (gWs_at 908 (by decide +kernel) (by decide +kernel))) (hts _ (gWs_at 141 (by decide +kernel) (by decide +kernel))) hcode (Nat.le_trans hf hr1) (by omega) hr3 hr4 hdg kk
end GV
theorem gq_0_5 : ∀ T N C, gCl[0]? = some (C, T, N) → (T 5).2.2.2 = false ∧ parseFieldDescriptor (T 5).2.2.1 = some .int := fun T N C h => by cases h; exact ⟨rfl, by decide +kernel⟩
theorem gq_0_6 : ∀ T N C, gCl[0]? = some (C, T, N) → (T 6).2.2.2 = false ∧ parseFieldDescriptor (T 6).2.2.1 = some .int := fun T N C h => by cases h; exact ⟨rfl, by decide +kernel⟩
theorem gq_0_7 : ∀ T N C, gCl[0]? = some (C, T, N) → (T 7).2.2.2 = false ∧ parseFieldDescriptor (T 7).2.2.1 = some .boolean := fun T N C h => by cases h; exact ⟨rfl, by decide +kernel⟩
theorem gq_1_2 : ∀ T N C, gCl[1]? = some (C, T, N) → (T 2).2.2.2 = false ∧ parseFieldDescriptor (T 2).2.2.1 = some .int := fun T N C h => by cases h; exact ⟨rfl, by decide +kernel⟩
theorem gq_1_3 : ∀ T N C, gCl[1]? = some (C, T, N) → (T 3).2.2.2 = false ∧ parseFieldDescriptor (T 3).2.2.1 = some .int := fun T N C h => by cases h; exact ⟨rfl, by decide +kernel⟩
theorem gq_1_4 : ∀ T N C, gCl[1]? = some (C, T, N) → (T 4).2.2.2 = false ∧ parseFieldDescriptor (T 4).2.2.1 = some .long := fun T N C h => by cases h; exact ⟨rfl, by decide +kernel⟩
theorem gq_1_5 : ∀ T N C, gCl[1]? = some (C, T, N) → (T 5).2.2.2 = false ∧ parseFieldDescriptor (T 5).2.2.1 = some .long := fun T N C h => by cases h; exact ⟨rfl, by decide +kernel⟩
theorem gq_1_6 : ∀ T N C, gCl[1]? = some (C, T, N) → (T 6).2.2.2 = false ∧ parseFieldDescriptor (T 6).2.2.1 = some .int := fun T N C h => by cases h; exact ⟨rfl, by decide +kernel⟩
theorem gq_1_7 : ∀ T N C, gCl[1]? = some (C, T, N) → (T 7).2.2.2 = false ∧ parseFieldDescriptor (T 7).2.2.1 = some .int := fun T N C h => by cases h; exact ⟨rfl, by decide +kernel⟩
theorem gq_2_1 : ∀ T N C, gCl[2]? = some (C, T, N) → (T 1).2.2.2 = false ∧ parseFieldDescriptor (T 1).2.2.1 = some .int := fun T N C h => by cases h; exact ⟨rfl, by decide +kernel⟩
theorem gq_2_2 : ∀ T N C, gCl[2]? = some (C, T, N) → (T 2).2.2.2 = false ∧ parseFieldDescriptor (T 2).2.2.1 = some .int := fun T N C h => by cases h; exact ⟨rfl, by decide +kernel⟩
theorem gq_2_3 : ∀ T N C, gCl[2]? = some (C, T, N) → (T 3).2.2.2 = false ∧ parseFieldDescriptor (T 3).2.2.1 = some .int := fun T N C h => by cases h; exact ⟨rfl, by decide +kernel⟩
theorem gq_2_4 : ∀ T N C, gCl[2]? = some (C, T, N) → (T 4).2.2.2 = false ∧ parseFieldDescriptor (T 4).2.2.1 = some .int := fun T N C h => by cases h; exact ⟨rfl, by decide +kernel⟩
theorem gq_2_5 : ∀ T N C, gCl[2]? = some (C, T, N) → (T 5).2.2.2 = false ∧ parseFieldDescriptor (T 5).2.2.1 = some .int := fun T N C h => by cases h; exact ⟨rfl, by decide +kernel⟩
theorem gq_3_9 : ∀ T N C, gCl[3]? = some (C, T, N) → (T 9).2.2.2 = false ∧ parseFieldDescriptor (T 9).2.2.1 = some .int := fun T N C h => by cases h; exact ⟨rfl, by decide +kernel⟩
theorem gq_3_10 : ∀ T N C, gCl[3]? = some (C, T, N) → (T 10).2.2.2 = false ∧ parseFieldDescriptor (T 10).2.2.1 = some .int := fun T N C h => by cases h; exact ⟨rfl, by decide +kernel⟩
theorem gq_3_11 : ∀ T N C, gCl[3]? = some (C, T, N) → (T 11).2.2.2 = false ∧ parseFieldDescriptor (T 11).2.2.1 = some .int := fun T N C h => by cases h; exact ⟨rfl, by decide +kernel⟩
theorem gq_4_3 : ∀ T N C, gCl[4]? = some (C, T, N) → (T 3).2.2.2 = false ∧ parseFieldDescriptor (T 3).2.2.1 = some .int := fun T N C h => by cases h; exact ⟨rfl, by decide +kernel⟩
theorem gq_6_10 : ∀ T N C, gCl[6]? = some (C, T, N) → (T 10).2.2.2 = false ∧ parseFieldDescriptor (T 10).2.2.1 = some .int := fun T N C h => by cases h; exact ⟨rfl, by decide +kernel⟩
theorem gq_6_11 : ∀ T N C, gCl[6]? = some (C, T, N) → (T 11).2.2.2 = false ∧ parseFieldDescriptor (T 11).2.2.1 = some .int := fun T N C h => by cases h; exact ⟨rfl, by decide +kernel⟩
theorem gq_6_12 : ∀ T N C, gCl[6]? = some (C, T, N) → (T 12).2.2.2 = false ∧ parseFieldDescriptor (T 12).2.2.1 = some .int := fun T N C h => by cases h; exact ⟨rfl, by decide +kernel⟩
theorem gq_6_13 : ∀ T N C, gCl[6]? = some (C, T, N) → (T 13).2.2.2 = false ∧ parseFieldDescriptor (T 13).2.2.1 = some .int := fun T N C h => by cases h; exact ⟨rfl, by decide +kernel⟩
theorem gq_7_3 : ∀ T N C, gCl[7]? = some (C, T, N) → (T 3).2.2.2 = false ∧ parseFieldDescriptor (T 3).2.2.1 = some .int := fun T N C h => by cases h; exact ⟨rfl, by decide +kernel⟩
theorem gq_8_1 : ∀ T N C, gCl[8]? = some (C, T, N) → (T 1).2.2.2 = false ∧ parseFieldDescriptor (T 1).2.2.1 = some .int := fun T N C h => by cases h; exact ⟨rfl, by decide +kernel⟩
theorem gq_8_2 : ∀ T N C, gCl[8]? = some (C, T, N) → (T 2).2.2.2 = false ∧ parseFieldDescriptor (T 2).2.2.1 = some .int := fun T N C h => by cases h; exact ⟨rfl, by decide +kernel⟩
theorem gq_8_3 : ∀ T N C, gCl[8]? = some (C, T, N) → (T 3).2.2.2 = false ∧ parseFieldDescriptor (T 3).2.2.1 = some .int := fun T N C h => by cases h; exact ⟨rfl, by decide +kernel⟩
theorem gq_8_7 : ∀ T N C, gCl[8]? = some (C, T, N) → (T 7).2.2.2 = false ∧ parseFieldDescriptor (T 7).2.2.1 = some .int := fun T N C h => by cases h; exact ⟨rfl, by decide +kernel⟩
theorem gq_8_10 : ∀ T N C, gCl[8]? = some (C, T, N) → (T 10).2.2.2 = false ∧ parseFieldDescriptor (T 10).2.2.1 = some .int := fun T N C h => by cases h; exact ⟨rfl, by decide +kernel⟩
theorem gq_8_11 : ∀ T N C, gCl[8]? = some (C, T, N) → (T 11).2.2.2 = false ∧ parseFieldDescriptor (T 11).2.2.1 = some .int := fun T N C h => by cases h; exact ⟨rfl, by decide +kernel⟩
theorem gq_8_17 : ∀ T N C, gCl[8]? = some (C, T, N) → (T 17).2.2.2 = false ∧ parseFieldDescriptor (T 17).2.2.1 = some .boolean := fun T N C h => by cases h; exact ⟨rfl, by decide +kernel⟩
theorem gq_8_18 : ∀ T N C, gCl[8]? = some (C, T, N) → (T 18).2.2.2 = false ∧ parseFieldDescriptor (T 18).2.2.1 = some .int := fun T N C h => by cases h; exact ⟨rfl, by decide +kernel⟩
theorem gq_8_19 : ∀ T N C, gCl[8]? = some (C, T, N) → (T 19).2.2.2 = false ∧ parseFieldDescriptor (T 19).2.2.1 = some .int := fun T N C h => by cases h; exact ⟨rfl, by decide +kernel⟩
theorem gq_8_21 : ∀ T N C, gCl[8]? = some (C, T, N) → (T 21).2.2.2 = false ∧ parseFieldDescriptor (T 21).2.2.1 = some .int := fun T N C h => by cases h; exact ⟨rfl, by decide +kernel⟩
theorem gq_8_22 : ∀ T N C, gCl[8]? = some (C, T, N) → (T 22).2.2.2 = false ∧ parseFieldDescriptor (T 22).2.2.1 = some .int := fun T N C h => by cases h; exact ⟨rfl, by decide +kernel⟩
theorem gq_8_23 : ∀ T N C, gCl[8]? = some (C, T, N) → (T 23).2.2.2 = false ∧ parseFieldDescriptor (T 23).2.2.1 = some .int := fun T N C h => by cases h; exact ⟨rfl, by decide +kernel⟩
theorem gq_8_24 : ∀ T N C, gCl[8]? = some (C, T, N) → (T 24).2.2.2 = false ∧ parseFieldDescriptor (T 24).2.2.1 = some .int := fun T N C h => by cases h; exact ⟨rfl, by decide +kernel⟩
theorem gq_8_25 : ∀ T N C, gCl[8]? = some (C, T, N) → (T 25).2.2.2 = false ∧ parseFieldDescriptor (T 25).2.2.1 = some .int := fun T N C h => by cases h; exact ⟨rfl, by decide +kernel⟩
theorem gq_8_28 : ∀ T N C, gCl[8]? = some (C, T, N) → (T 28).2.2.2 = false ∧ parseFieldDescriptor (T 28).2.2.1 = some .int := fun T N C h => by cases h; exact ⟨rfl, by decide +kernel⟩
theorem gq_8_31 : ∀ T N C, gCl[8]? = some (C, T, N) → (T 31).2.2.2 = false ∧ parseFieldDescriptor (T 31).2.2.1 = some .int := fun T N C h => by cases h; exact ⟨rfl, by decide +kernel⟩
theorem gq_8_36 : ∀ T N C, gCl[8]? = some (C, T, N) → (T 36).2.2.2 = false ∧ parseFieldDescriptor (T 36).2.2.1 = some .int := fun T N C h => by cases h; exact ⟨rfl, by decide +kernel⟩
theorem gq_8_39 : ∀ T N C, gCl[8]? = some (C, T, N) → (T 39).2.2.2 = false ∧ parseFieldDescriptor (T 39).2.2.1 = some .int := fun T N C h => by cases h; exact ⟨rfl, by decide +kernel⟩
theorem gq_8_41 : ∀ T N C, gCl[8]? = some (C, T, N) → (T 41).2.2.2 = false ∧ parseFieldDescriptor (T 41).2.2.1 = some .int := fun T N C h => by cases h; exact ⟨rfl, by decide +kernel⟩
