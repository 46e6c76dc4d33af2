/-! Rows for the law's body: a call of a wrapper, more cells. -/
section GL
variable {p : Program} {l : Launch} {e : Env} {R : Room} {s : State} {m : MethodId} {args : Array Value} {below : List Frame} {meth : Method} {c : Code} {H : Heap} {locs : List Loc} {cells slots : Nat} {Q : State → Prop}
variable {cc : ByteArray} {pc nL : Nat} {ls : Array Slot} {rest : List Value} {D : va_G} {A : Nat → Prop} {cy : Nat → ClassId} {ρ : Nat → Nat} {u : gSt} {own : String} {ret' : Option FieldType} {f n : Nat}
theorem gX_more {c1 s1 : Nat} (X : gX own cc nL ret' f n R cells slots cy D ρ A p s m args meth c) (h1 : c1 ≤ R.cells) (h2 : s1 ≤ R.slots) : gX own cc nL ret' f n R c1 s1 cy D ρ A p s m args meth c := by
  obtain ⟨hx, hb, hml, hr, hown, hts, hns, hK, hD, ⟨hr1, hr2, hr3, hr4⟩, hlk⟩ := X
  exact ⟨hx, hb, hml, hr, hown, hts, hns, hK, hD, ⟨hr1, hr2, h1, h2⟩, hlk⟩
set_option maxHeartbeats 2000000 in
theorem g_callW (X : gX own cc nL ret' f n R cells slots cy D ρ A p s m args meth c) (X2 : gX2 A s) (hP : va_P D gCl (gW cy ρ u) H) (hS : va_S A s.heap H locs) {y : MethodName} {bytes : ByteArray} {maxL idx k f' n' : Nat} {hh : List (Nat × Nat × Nat × Nat)} {As st : List Value} {r : Int32} {u' : gSt}
    (hM : gCtW l y bytes maxL hh f' n' cy D ρ A As u r u') (hcode : Cond.codeWith y bytes maxL (some .int) hh ∈ gWs) (hstat : Cond.static y ∈ gWs) (hini : Cond.initialized y.cls ∈ gWs) (hl : Cond.methodLink own idx y ∈ gWs) (hd : y.cls ≠ "java/lang/invoke/MethodHandle" ∧ y.cls ≠ "java/lang/invoke/VarHandle" ∧ (parseMethodDescriptor y.desc).map (fun d => d.parameters.length) = some k) (hk : As.length = k) (hf : f' + 1 ≤ f) (hn : 8 + (maxL + 11) + n' ≤ n) (hc1 : cells + 1 ≤ R.cells) (hc2 : slots + 6 ≤ R.slots) (hsz : ls.size = nL) (hst : st = As.reverse ++ rest) (hcat : (rest.map fun v => v.category).sum ≤ 8) (hdg : decode cc pc = .ok (.invokestatic idx, 3))
    (kk : ∀ (H1 : Heap) (locs1 : List Loc), va_P D gCl (gW cy ρ u') H1 → va_S A s.heap H1 locs1 → W p l e R s m args below meth c H1 locs1 (cells + 1) (slots + 6) Q (F0 m (pc + 3) ls (.int r :: rest))) :
    W p l e R s m args below meth c H locs cells slots Q (F0 m pc ls st) := by
  have X' := X
  obtain ⟨hx, hb, hml, hr, hown, hts, hns, hK, hD, ⟨hr1, hr2, hr3, hr4⟩, hlk⟩ := X
  intro T hT Xs
  subst hb
  have hblind : FrameBlind (va_Pc As (fun U => gB cy D ρ u U ∧ gX2 A U)) := fun a U g mk h => ⟨h.1, (gB_blind (av := As) a U g mk ⟨h.1, h.2.1⟩).2, gX2_calling h.2.2⟩
  have hB : Back l R p e below s args y 3 8 (PreOf R 1 6 (va_Pc As (fun U => gB cy D ρ u U ∧ gX2 A U))) (PostOf (va_Qi (fun r1 v => r1 = r ∧ v = u') (fun v U => gB cy D ρ v U ∧ gX2 A U) A) 1 6 A) :=
    va_backW (hh := hh) (bytes := bytes) (maxL := maxL) (ret := some .int) (rm := gRm1 f' n') hM hblind rfl rfl (Nat.le_trans hf hr1) (Nat.le_trans hn hr2) (fun w hw a' U hW => by
      rcases List.mem_cons.mp hw with rfl | hw
      · exact word_at hW (gWs_good hcode) (hts _ hcode)
      · exact word_at hW (gWs_good hw) (hts _ hw)) List.mem_cons_self (fun a' U hW => word_at hW (gWs_good hini) (hts _ hini))
  obtain ⟨mk, methM, cM, hnamed, hmethM, -, -, -, -, -, -, hsigM⟩ := Cond.codeWith_spec (hts _ hcode)
  have hstatic : methM.isStatic = true := Cond.static_spec hnamed hmethM (hts _ hstat)
  obtain ⟨kP, hkP, -⟩ := className_of_methodNamed hnamed
  have hinitP : kP.init = .initialized := Cond.initialized_spec (findClass_of_methodNamed hnamed) hkP (hts _ hini)
  have hlen : As.length = methM.sig.parameters.length := by
    have h2 := hd.2.2
    rw [hsigM] at h2
    rw [hk]
    exact (Option.some.inj h2).symm
  obtain ⟨vm₁, X₁, hstep₁⟩ := Xs.invokestatic hx hown (hts _ hl) hnamed hmethM hstatic hkP hinitP ⟨hd.1, hd.2.1⟩ (g := F0 m pc ls st) rfl (argsL := As) (rest := rest) hlen hst hdg
  have hTv : (T.setVm vm₁).heap = H := hT
  obtain ⟨v, ⟨U', l2, c2, s2⟩, XB, ⟨g', mk', t, L, e1, e2, hq, h1, hL, h2, h3⟩, hsteps⟩ := hB m meth c ⟨T.setVm vm₁, locs, cells, slots⟩ (F0 m pc ls rest) (.invokestatic idx) mk As.toArray X₁ rfl (hsz.trans hml.symm) hdg (lv_room hcat) (X₁.named hnamed) ⟨hc1, hc2, rfl, gB_pre X' hP hTv X₁.warmed, gX2_to X2 hS hTv X₁.warmed⟩
  dsimp only [Pt.U, Pt.locs, Pt.cells, Pt.slots] at XB e1 e2 h1 h2 h3 hsteps
  subst h1; subst h2; subst h3
  obtain ⟨⟨r1, v1, hv, ⟨rfl, rfl⟩, hB1, -⟩, hF1, hF2⟩ := hq
  cases hv
  have hst0 : ((T.setVm vm₁).calling g' mk' As.toArray).heap = H := hTv
  have hS1 : va_S A s.heap U'.heap (locs ++ L) := by
    refine ⟨?_, fun q g1 g2 => ?_, fun q hq => ?_⟩
    · rw [e1]
      have h5 : H.size ≤ t.heap.size := by rw [← hst0]; exact hF1
      exact Nat.le_trans hS.1 h5
    · rw [e1]
      have h5 := hF2 q (by rw [hst0]; exact Nat.lt_of_lt_of_le g1 hS.1) g2
      rw [h5, hst0]
      exact hS.2.1 q g1 g2
    · rcases List.mem_append.mp hq with h | h
      · exact hS.2.2 q h
      · exact hL q h
  obtain ⟨t1, a1, b1⟩ := kk U'.heap (locs ++ L) (by rw [e1]; exact hB1.1) hS1 U' rfl XB
  refine ⟨t1, hstep₁ _ (fun acts => ?_), b1⟩
  rw [doInvoke_state]
  exact hsteps.trans a1
end GL
