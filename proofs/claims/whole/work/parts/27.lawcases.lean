/-! printed by wip/whole/gen/gen.py -/
section
variable {p : Program} {l : Launch} {e : Env} {R : Room} {s : State} {m : MethodId} {args : Array Value} {below : List Frame} {meth : Method} {c : Code} {Q : State → Prop} {cells slots : Nat} {cy : Nat → ClassId} {D : va_G} {ρ : Nat → Nat} {A : Nat → Prop}
noncomputable def M_Law_c0 (L : Nat) (xs : Nat → Int32) (x4 : Int32) (u : gSt) : Option gSt :=
  gc (gIn (x4 + (1 : Int32)) L) <| gc (gIn (x4 + (2 : Int32)) L) <| gc (gIn (x4 + (3 : Int32)) L) <| gc (gIn (x4 + (4 : Int32)) L) <| gc (gIn (x4 + (5 : Int32)) L) <| (M_Law_feed (xs (gIx (x4 + (1 : Int32)))) (xs (gIx (x4 + (2 : Int32)))) (xs (gIx (x4 + (3 : Int32)))) (xs (gIx (x4 + (4 : Int32)))) (xs (gIx (x4 + (5 : Int32)))) u).bind fun q144 =>
  gc (gIn (x4 + (1 : Int32)) L) <| gc (gIn (x4 + (2 : Int32)) L) <| gc (gIn (x4 + (3 : Int32)) L) <| gc (gIn (x4 + (4 : Int32)) L) <| gc (gIn (x4 + (5 : Int32)) L) <| (M_Model_feed (xs (gIx (x4 + (1 : Int32)))) (xs (gIx (x4 + (2 : Int32)))) (xs (gIx (x4 + (3 : Int32)))) (xs (gIx (x4 + (4 : Int32)))) (xs (gIx (x4 + (5 : Int32)))) q144.2).bind fun q180 =>
  (M_Model_thrown q180.2).bind fun q186 =>
  if q186.1 = q144.1 then
    (if q144.1 = (0 : Int32) then
      (gc (gIn (0 : Int32) (gLen 66)) <| if (lg_cmp (q186.2.2.2.2 66 (gIx (0 : Int32))) q180.1.toInt64) = (0 : Int32) then
        (some q186.2)
      else
        (none))
    else
      (some q186.2))
  else
    (none)
set_option maxHeartbeats 4000000 in
set_option maxRecDepth 100000 in
theorem t_Law_c0 (C : gX "TermDeskLaw" code 7 ret 12 428 R cells slots cy D ρ A p s m args meth c) (X2 : gX2 A s) (hfl : l.stackTraces = false) (hc1 : cells + 1 ≤ R.cells) (hc2 : slots + 6 ≤ R.slots) {b L : Nat} {xs : Nat → Int32} (hX : va_X b L xs s s.heap) (hbl : b < s.heap.size) (hbA : ¬ A b) {x4 : Int32} {u z : gSt} (hM : M_Law_c0 L xs x4 u = some z) (hN : ∀ (ls : Array Slot) (H : Heap) (locs : List Loc), lv_has ls 7 [(0, .ref b), (1, .ref (ρ 0)), (2, .ref (ρ 42)), (3, .ref (ρ 66)), (4, .int (x4 + (6 : Int32)))] → va_P D gCl (gW cy ρ z) H → va_S A s.heap H locs → W p l e R s m args below meth c H locs (cells + 1) (slots + 6) Q (F0 m 23 ls [])) (ls : Array Slot) (H : Heap) (locs : List Loc) (hl : lv_has ls 7 [(0, .ref b), (1, .ref (ρ 0)), (2, .ref (ρ 42)), (3, .ref (ρ 66)), (4, .int x4)]) (hP : va_P D gCl (gW cy ρ u) H) (hS : va_S A s.heap H locs) : W p l e R s m args below meth c H locs cells slots Q (F0 m 112 ls []) := by
  have hx := C.1
  have hb := C.2.1
  unfold M_Law_c0 at hM
  refine lv_aload_n hx hb d_law_112 rfl (lv_at hl 1 rfl) ?_
  refine lv_aload_n hx hb d_law_113 rfl (lv_at hl 0 rfl) ?_
  refine lv_iload hx hb d_law_114 (lv_at hl 4 rfl) ?_
  refine lv_iconst (v := (1 : Int32)) hx hb d_law_116 (by decide) ?_
  refine lv_iadd hx hb d_law_117 ?_
  obtain ⟨hi118, hM⟩ := gc_some hM
  refine va_sld hx hb hX hbl hbA hS (gIn_in hi118) d_law_118 ?_
  refine lv_aload_n hx hb d_law_119 rfl (lv_at hl 0 rfl) ?_
  refine lv_iload hx hb d_law_120 (lv_at hl 4 rfl) ?_
  refine lv_iconst (v := (2 : Int32)) hx hb d_law_122 (by decide) ?_
  refine lv_iadd hx hb d_law_123 ?_
  obtain ⟨hi124, hM⟩ := gc_some hM
  refine va_sld hx hb hX hbl hbA hS (gIn_in hi124) d_law_124 ?_
  refine lv_aload_n hx hb d_law_125 rfl (lv_at hl 0 rfl) ?_
  refine lv_iload hx hb d_law_126 (lv_at hl 4 rfl) ?_
  refine lv_iconst (v := (3 : Int32)) hx hb d_law_128 (by decide) ?_
  refine lv_iadd hx hb d_law_129 ?_
  obtain ⟨hi130, hM⟩ := gc_some hM
  refine va_sld hx hb hX hbl hbA hS (gIn_in hi130) d_law_130 ?_
  refine lv_aload_n hx hb d_law_131 rfl (lv_at hl 0 rfl) ?_
  refine lv_iload hx hb d_law_132 (lv_at hl 4 rfl) ?_
  refine lv_iconst (v := (4 : Int32)) hx hb d_law_134 (by decide) ?_
  refine lv_iadd hx hb d_law_135 ?_
  obtain ⟨hi136, hM⟩ := gc_some hM
  refine va_sld hx hb hX hbl hbA hS (gIn_in hi136) d_law_136 ?_
  refine lv_aload_n hx hb d_law_137 rfl (lv_at hl 0 rfl) ?_
  refine lv_iload hx hb d_law_138 (lv_at hl 4 rfl) ?_
  refine lv_iconst (v := (5 : Int32)) hx hb d_law_140 (by decide) ?_
  refine lv_iadd hx hb d_law_141 ?_
  obtain ⟨hi142, hM⟩ := gc_some hM
  refine va_sld hx hb hX hbl hbA hS (gIn_in hi142) d_law_142 ?_
  refine lv_aload_n hx hb d_law_143 rfl (lv_at hl 3 rfl) ?_
  obtain ⟨q144, hq144, hM⟩ := gb_some hM
  refine g_callW (k := 7) (As := [.ref (ρ 0), .int (xs (gIx (x4 + (1 : Int32)))), .int (xs (gIx (x4 + (2 : Int32)))), .int (xs (gIx (x4 + (3 : Int32)))), .int (xs (gIx (x4 + (4 : Int32)))), .int (xs (gIx (x4 + (5 : Int32)))), .ref (ρ 66)]) C X2 hP hS (c_Law_feed hfl C.2.2.2.2.2.2.2.2.1 hq144) (gWs_at 618 (by decide +kernel) (by decide +kernel)) (gWs_at 617 (by decide +kernel) (by decide +kernel)) (gWs_at 116 (by decide +kernel) (by decide +kernel)) (gWs_at 616 (by decide +kernel) (by decide +kernel)) ⟨by decide +kernel, by decide +kernel, by decide +kernel⟩ rfl (by decide) (by decide) hc1 hc2 hl.1 rfl (Nat.le_of_ble_eq_true rfl) d_law_144 (fun H locs hP hS => ?_)
  replace C := gX_more C hc1 hc2
  refine lv_istore (lv' := [(5, .int q144.1), (0, .ref b), (1, .ref (ρ 0)), (2, .ref (ρ 42)), (3, .ref (ρ 66)), (4, .int x4)]) hx hb d_law_147 hl (by decide) rfl (fun ls hl => ?_)
  refine lv_aload_n hx hb d_law_149 rfl (lv_at hl 3 rfl) ?_
  refine lv_aload_n hx hb d_law_150 rfl (lv_at hl 1 rfl) ?_
  refine lv_iload hx hb d_law_151 (lv_at hl 5 rfl) ?_
  refine lv_iconst (v := (1 : Int32)) hx hb d_law_153 (by decide) ?_
  refine lv_iadd hx hb d_law_154 ?_
  obtain ⟨hi155, hM⟩ := gc_some hM
  refine va_sld hx hb hX hbl hbA hS (gIn_in hi155) d_law_155 ?_
  refine lv_aload_n hx hb d_law_156 rfl (lv_at hl 1 rfl) ?_
  refine lv_iload hx hb d_law_157 (lv_at hl 5 rfl) ?_
  refine lv_iconst (v := (2 : Int32)) hx hb d_law_159 (by decide) ?_
  refine lv_iadd hx hb d_law_160 ?_
  obtain ⟨hi161, hM⟩ := gc_some hM
  refine va_sld hx hb hX hbl hbA hS (gIn_in hi161) d_law_161 ?_
  refine lv_aload_n hx hb d_law_162 rfl (lv_at hl 1 rfl) ?_
  refine lv_iload hx hb d_law_163 (lv_at hl 5 rfl) ?_
  refine lv_iconst (v := (3 : Int32)) hx hb d_law_165 (by decide) ?_
  refine lv_iadd hx hb d_law_166 ?_
  obtain ⟨hi167, hM⟩ := gc_some hM
  refine va_sld hx hb hX hbl hbA hS (gIn_in hi167) d_law_167 ?_
  refine lv_aload_n hx hb d_law_168 rfl (lv_at hl 1 rfl) ?_
  refine lv_iload hx hb d_law_169 (lv_at hl 5 rfl) ?_
  refine lv_iconst (v := (4 : Int32)) hx hb d_law_171 (by decide) ?_
  refine lv_iadd hx hb d_law_172 ?_
  obtain ⟨hi173, hM⟩ := gc_some hM
  refine va_sld hx hb hX hbl hbA hS (gIn_in hi173) d_law_173 ?_
  refine lv_aload_n hx hb d_law_174 rfl (lv_at hl 1 rfl) ?_
  refine lv_iload hx hb d_law_175 (lv_at hl 5 rfl) ?_
  refine lv_iconst (v := (5 : Int32)) hx hb d_law_177 (by decide) ?_
  refine lv_iadd hx hb d_law_178 ?_
  obtain ⟨hi179, hM⟩ := gc_some hM
  refine va_sld hx hb hX hbl hbA hS (gIn_in hi179) d_law_179 ?_
  obtain ⟨q180, hq180, hM⟩ := gb_some hM
  refine g_backI (g_runV (As := [.int (xs (gIx (x4 + (1 : Int32)))), .int (xs (gIx (x4 + (2 : Int32)))), .int (xs (gIx (x4 + (3 : Int32)))), .int (xs (gIx (x4 + (4 : Int32)))), .int (xs (gIx (x4 + (5 : Int32))))]) C hP (c_Model_feed C.2.2.2.2.2.2.2.2.1 hq180) gi_Model_feed gm_Law_63 rfl rfl (by decide) (by decide) hl.1 rfl (Nat.le_of_ble_eq_true rfl) d_law_180) hS (fun H locs hP hS => ?_)
  refine lv_istore (lv' := [(6, .int q180.1), (5, .int q144.1), (0, .ref b), (1, .ref (ρ 0)), (2, .ref (ρ 42)), (3, .ref (ρ 66)), (4, .int x4)]) hx hb d_law_183 hl (by decide) rfl (fun ls hl => ?_)
  refine lv_aload_n hx hb d_law_185 rfl (lv_at hl 4 rfl) ?_
  obtain ⟨q186, hq186, hM⟩ := gb_some hM
  refine g_backI (g_runV (As := []) C hP (c_Model_thrown C.2.2.2.2.2.2.2.2.1 hq186) gi_Model_thrown gm_Law_64 rfl rfl (by decide) (by decide) hl.1 rfl (Nat.le_of_ble_eq_true rfl) d_law_186) hS (fun H locs hP hS => ?_)
  refine lv_iload hx hb d_law_189 (lv_at hl 1 rfl) ?_
  refine lv_icmp_eq (tgt := 196) hx hb d_law_191 (by decide) (fun hc191 => ?_) (fun hc191 => ?_)
  · replace hM := gi_t hc191 hM
    refine lv_iload hx hb d_law_196 (lv_at hl 1 rfl) ?_
    refine lv_if_ne (tgt := 213) hx hb d_law_198 (by decide) (fun hc198 => ?_) (fun hc198 => ?_)
    · replace hM := gi_f hc198 hM
      refine lv_goto (tgt := 975) hx hb d_law_213 (by decide) ?_
      refine lv_iinc (k := 6) (v := x4 + (6 : Int32)) (lv' := [(4, .int (x4 + (6 : Int32))), (6, .int q180.1), (5, .int q144.1), (0, .ref b), (1, .ref (ρ 0)), (2, .ref (ρ 42)), (3, .ref (ρ 66))]) hx hb d_law_975 hl rfl (congrArg (fun z => x4 + z) (by decide)) (by decide) rfl (fun ls hl => ?_)
      refine lv_goto (tgt := 23) hx hb d_law_978 (by decide) ?_
      obtain rfl := Option.some.inj hM
      refine W.widen (k := cells + 1) (n := slots + 6) (by omega) (by omega) ?_
      exact hN ls H locs (lv_sub hl [3, 4, 5, 6, 0] rfl) hP hS
    · replace hM := gi_t hc198 hM
      refine lv_aload_n hx hb d_law_201 rfl (lv_at hl 5 rfl) ?_
      refine lv_iconst (v := (0 : Int32)) hx hb d_law_202 (by decide) ?_
      obtain ⟨hi203, hM⟩ := gc_some hM
      refine g_lald C hP rfl hi203 d_law_203 ?_
      refine lv_iload hx hb d_law_204 (lv_at hl 0 rfl) ?_
      refine lv_i2l (v := q180.1.toInt64) hx hb d_law_206 rfl ?_
      refine W.lcmp hx hb d_law_207 ?_
      refine lv_if_eq (tgt := 213) hx hb d_law_208 (by decide) (fun hc208 => ?_) (fun hc208 => ?_)
      · replace hM := gi_t hc208 hM
        refine lv_goto (tgt := 975) hx hb d_law_213 (by decide) ?_
        refine lv_iinc (k := 6) (v := x4 + (6 : Int32)) (lv' := [(4, .int (x4 + (6 : Int32))), (6, .int q180.1), (5, .int q144.1), (0, .ref b), (1, .ref (ρ 0)), (2, .ref (ρ 42)), (3, .ref (ρ 66))]) hx hb d_law_975 hl rfl (congrArg (fun z => x4 + z) (by decide)) (by decide) rfl (fun ls hl => ?_)
        refine lv_goto (tgt := 23) hx hb d_law_978 (by decide) ?_
        obtain rfl := Option.some.inj hM
        refine W.widen (k := cells + 1) (n := slots + 6) (by omega) (by omega) ?_
        exact hN ls H locs (lv_sub hl [3, 4, 5, 6, 0] rfl) hP hS
      · replace hM := gi_f hc208 hM
        refine lv_iconst (v := (0 : Int32)) hx hb d_law_211 (by decide) ?_
        cases hM
  · replace hM := gi_f hc191 hM
    refine lv_iconst (v := (0 : Int32)) hx hb d_law_194 (by decide) ?_
    cases hM
noncomputable def M_Law_c1 (L : Nat) (xs : Nat → Int32) (x4 : Int32) (u : gSt) : Option gSt :=
  gc (gIn (x4 + (1 : Int32)) L) <| (M_Law_trim (xs (gIx (x4 + (1 : Int32)))) u).bind fun q224 =>
  gc (gIn (x4 + (1 : Int32)) L) <| (M_Model_trim (xs (gIx (x4 + (1 : Int32)))) q224.2).bind fun q236 =>
  (M_Model_thrown q236.2).bind fun q242 =>
  if q242.1 = q224.1 then
    (if q224.1 = (0 : Int32) then
      (gc (gIn (0 : Int32) (gLen 66)) <| if (lg_cmp (q242.2.2.2.2 66 (gIx (0 : Int32))) q236.1.toInt64) = (0 : Int32) then
        (some q242.2)
      else
        (none))
    else
      (some q242.2))
  else
    (none)
set_option maxHeartbeats 4000000 in
set_option maxRecDepth 100000 in
theorem t_Law_c1 (C : gX "TermDeskLaw" code 7 ret 12 428 R cells slots cy D ρ A p s m args meth c) (X2 : gX2 A s) (hfl : l.stackTraces = false) (hc1 : cells + 1 ≤ R.cells) (hc2 : slots + 6 ≤ R.slots) {b L : Nat} {xs : Nat → Int32} (hX : va_X b L xs s s.heap) (hbl : b < s.heap.size) (hbA : ¬ A b) {x4 : Int32} {u z : gSt} (hM : M_Law_c1 L xs x4 u = some z) (hN : ∀ (ls : Array Slot) (H : Heap) (locs : List Loc), lv_has ls 7 [(0, .ref b), (1, .ref (ρ 0)), (2, .ref (ρ 42)), (3, .ref (ρ 66)), (4, .int (x4 + (6 : Int32)))] → va_P D gCl (gW cy ρ z) H → va_S A s.heap H locs → W p l e R s m args below meth c H locs (cells + 1) (slots + 6) Q (F0 m 23 ls [])) (ls : Array Slot) (H : Heap) (locs : List Loc) (hl : lv_has ls 7 [(0, .ref b), (1, .ref (ρ 0)), (2, .ref (ρ 42)), (3, .ref (ρ 66)), (4, .int x4)]) (hP : va_P D gCl (gW cy ρ u) H) (hS : va_S A s.heap H locs) : W p l e R s m args below meth c H locs cells slots Q (F0 m 216 ls []) := by
  have hx := C.1
  have hb := C.2.1
  unfold M_Law_c1 at hM
  refine lv_aload_n hx hb d_law_216 rfl (lv_at hl 1 rfl) ?_
  refine lv_aload_n hx hb d_law_217 rfl (lv_at hl 0 rfl) ?_
  refine lv_iload hx hb d_law_218 (lv_at hl 4 rfl) ?_
  refine lv_iconst (v := (1 : Int32)) hx hb d_law_220 (by decide) ?_
  refine lv_iadd hx hb d_law_221 ?_
  obtain ⟨hi222, hM⟩ := gc_some hM
  refine va_sld hx hb hX hbl hbA hS (gIn_in hi222) d_law_222 ?_
  refine lv_aload_n hx hb d_law_223 rfl (lv_at hl 3 rfl) ?_
  obtain ⟨q224, hq224, hM⟩ := gb_some hM
  refine g_callW (k := 3) (As := [.ref (ρ 0), .int (xs (gIx (x4 + (1 : Int32)))), .ref (ρ 66)]) C X2 hP hS (c_Law_trim hfl C.2.2.2.2.2.2.2.2.1 hq224) (gWs_at 698 (by decide +kernel) (by decide +kernel)) (gWs_at 697 (by decide +kernel) (by decide +kernel)) (gWs_at 116 (by decide +kernel) (by decide +kernel)) (gWs_at 696 (by decide +kernel) (by decide +kernel)) ⟨by decide +kernel, by decide +kernel, by decide +kernel⟩ rfl (by decide) (by decide) hc1 hc2 hl.1 rfl (Nat.le_of_ble_eq_true rfl) d_law_224 (fun H locs hP hS => ?_)
  replace C := gX_more C hc1 hc2
  refine lv_istore (lv' := [(5, .int q224.1), (0, .ref b), (1, .ref (ρ 0)), (2, .ref (ρ 42)), (3, .ref (ρ 66)), (4, .int x4)]) hx hb d_law_227 hl (by decide) rfl (fun ls hl => ?_)
  refine lv_aload_n hx hb d_law_229 rfl (lv_at hl 3 rfl) ?_
  refine lv_aload_n hx hb d_law_230 rfl (lv_at hl 1 rfl) ?_
  refine lv_iload hx hb d_law_231 (lv_at hl 5 rfl) ?_
  refine lv_iconst (v := (1 : Int32)) hx hb d_law_233 (by decide) ?_
  refine lv_iadd hx hb d_law_234 ?_
  obtain ⟨hi235, hM⟩ := gc_some hM
  refine va_sld hx hb hX hbl hbA hS (gIn_in hi235) d_law_235 ?_
  obtain ⟨q236, hq236, hM⟩ := gb_some hM
  refine g_backI (g_runV (As := [.int (xs (gIx (x4 + (1 : Int32))))]) C hP (c_Model_trim C.2.2.2.2.2.2.2.2.1 hq236) gi_Model_trim gm_Law_71 rfl rfl (by decide) (by decide) hl.1 rfl (Nat.le_of_ble_eq_true rfl) d_law_236) hS (fun H locs hP hS => ?_)
  refine lv_istore (lv' := [(6, .int q236.1), (5, .int q224.1), (0, .ref b), (1, .ref (ρ 0)), (2, .ref (ρ 42)), (3, .ref (ρ 66)), (4, .int x4)]) hx hb d_law_239 hl (by decide) rfl (fun ls hl => ?_)
  refine lv_aload_n hx hb d_law_241 rfl (lv_at hl 4 rfl) ?_
  obtain ⟨q242, hq242, hM⟩ := gb_some hM
  refine g_backI (g_runV (As := []) C hP (c_Model_thrown C.2.2.2.2.2.2.2.2.1 hq242) gi_Model_thrown gm_Law_64 rfl rfl (by decide) (by decide) hl.1 rfl (Nat.le_of_ble_eq_true rfl) d_law_242) hS (fun H locs hP hS => ?_)
  refine lv_iload hx hb d_law_245 (lv_at hl 1 rfl) ?_
  refine lv_icmp_eq (tgt := 252) hx hb d_law_247 (by decide) (fun hc247 => ?_) (fun hc247 => ?_)
  · replace hM := gi_t hc247 hM
    refine lv_iload hx hb d_law_252 (lv_at hl 1 rfl) ?_
    refine lv_if_ne (tgt := 269) hx hb d_law_254 (by decide) (fun hc254 => ?_) (fun hc254 => ?_)
    · replace hM := gi_f hc254 hM
      refine lv_goto (tgt := 975) hx hb d_law_269 (by decide) ?_
      refine lv_iinc (k := 6) (v := x4 + (6 : Int32)) (lv' := [(4, .int (x4 + (6 : Int32))), (6, .int q236.1), (5, .int q224.1), (0, .ref b), (1, .ref (ρ 0)), (2, .ref (ρ 42)), (3, .ref (ρ 66))]) hx hb d_law_975 hl rfl (congrArg (fun z => x4 + z) (by decide)) (by decide) rfl (fun ls hl => ?_)
      refine lv_goto (tgt := 23) hx hb d_law_978 (by decide) ?_
      obtain rfl := Option.some.inj hM
      refine W.widen (k := cells + 1) (n := slots + 6) (by omega) (by omega) ?_
      exact hN ls H locs (lv_sub hl [3, 4, 5, 6, 0] rfl) hP hS
    · replace hM := gi_t hc254 hM
      refine lv_aload_n hx hb d_law_257 rfl (lv_at hl 5 rfl) ?_
      refine lv_iconst (v := (0 : Int32)) hx hb d_law_258 (by decide) ?_
      obtain ⟨hi259, hM⟩ := gc_some hM
      refine g_lald C hP rfl hi259 d_law_259 ?_
      refine lv_iload hx hb d_law_260 (lv_at hl 0 rfl) ?_
      refine lv_i2l (v := q236.1.toInt64) hx hb d_law_262 rfl ?_
      refine W.lcmp hx hb d_law_263 ?_
      refine lv_if_eq (tgt := 269) hx hb d_law_264 (by decide) (fun hc264 => ?_) (fun hc264 => ?_)
      · replace hM := gi_t hc264 hM
        refine lv_goto (tgt := 975) hx hb d_law_269 (by decide) ?_
        refine lv_iinc (k := 6) (v := x4 + (6 : Int32)) (lv' := [(4, .int (x4 + (6 : Int32))), (6, .int q236.1), (5, .int q224.1), (0, .ref b), (1, .ref (ρ 0)), (2, .ref (ρ 42)), (3, .ref (ρ 66))]) hx hb d_law_975 hl rfl (congrArg (fun z => x4 + z) (by decide)) (by decide) rfl (fun ls hl => ?_)
        refine lv_goto (tgt := 23) hx hb d_law_978 (by decide) ?_
        obtain rfl := Option.some.inj hM
        refine W.widen (k := cells + 1) (n := slots + 6) (by omega) (by omega) ?_
        exact hN ls H locs (lv_sub hl [3, 4, 5, 6, 0] rfl) hP hS
      · replace hM := gi_f hc264 hM
        refine lv_iconst (v := (0 : Int32)) hx hb d_law_267 (by decide) ?_
        cases hM
  · replace hM := gi_f hc247 hM
    refine lv_iconst (v := (0 : Int32)) hx hb d_law_250 (by decide) ?_
    cases hM
noncomputable def M_Law_c3 (L : Nat) (xs : Nat → Int32) (x4 : Int32) (u : gSt) : Option gSt :=
  gc (gIn (x4 + (1 : Int32)) L) <| (M_Law_fault (xs (gIx (x4 + (1 : Int32)))) u).bind fun q293 =>
  gc (gIn (x4 + (1 : Int32)) L) <| (M_Model_fault (xs (gIx (x4 + (1 : Int32)))) q293.2).bind fun q305 =>
  (M_Model_thrown q305.2).bind fun q311 =>
  if q311.1 = q293.1 then
    (if q293.1 = (0 : Int32) then
      (gc (gIn (0 : Int32) (gLen 66)) <| if (lg_cmp (q311.2.2.2.2 66 (gIx (0 : Int32))) q305.1.toInt64) = (0 : Int32) then
        (some q311.2)
      else
        (none))
    else
      (some q311.2))
  else
    (none)
set_option maxHeartbeats 4000000 in
set_option maxRecDepth 100000 in
theorem t_Law_c3 (C : gX "TermDeskLaw" code 7 ret 12 428 R cells slots cy D ρ A p s m args meth c) (X2 : gX2 A s) (hfl : l.stackTraces = false) (hc1 : cells + 1 ≤ R.cells) (hc2 : slots + 6 ≤ R.slots) {b L : Nat} {xs : Nat → Int32} (hX : va_X b L xs s s.heap) (hbl : b < s.heap.size) (hbA : ¬ A b) {x4 : Int32} {u z : gSt} (hM : M_Law_c3 L xs x4 u = some z) (hN : ∀ (ls : Array Slot) (H : Heap) (locs : List Loc), lv_has ls 7 [(0, .ref b), (1, .ref (ρ 0)), (2, .ref (ρ 42)), (3, .ref (ρ 66)), (4, .int (x4 + (6 : Int32)))] → va_P D gCl (gW cy ρ z) H → va_S A s.heap H locs → W p l e R s m args below meth c H locs (cells + 1) (slots + 6) Q (F0 m 23 ls [])) (ls : Array Slot) (H : Heap) (locs : List Loc) (hl : lv_has ls 7 [(0, .ref b), (1, .ref (ρ 0)), (2, .ref (ρ 42)), (3, .ref (ρ 66)), (4, .int x4)]) (hP : va_P D gCl (gW cy ρ u) H) (hS : va_S A s.heap H locs) : W p l e R s m args below meth c H locs cells slots Q (F0 m 285 ls []) := by
  have hx := C.1
  have hb := C.2.1
  unfold M_Law_c3 at hM
  refine lv_aload_n hx hb d_law_285 rfl (lv_at hl 1 rfl) ?_
  refine lv_aload_n hx hb d_law_286 rfl (lv_at hl 0 rfl) ?_
  refine lv_iload hx hb d_law_287 (lv_at hl 4 rfl) ?_
  refine lv_iconst (v := (1 : Int32)) hx hb d_law_289 (by decide) ?_
  refine lv_iadd hx hb d_law_290 ?_
  obtain ⟨hi291, hM⟩ := gc_some hM
  refine va_sld hx hb hX hbl hbA hS (gIn_in hi291) d_law_291 ?_
  refine lv_aload_n hx hb d_law_292 rfl (lv_at hl 3 rfl) ?_
  obtain ⟨q293, hq293, hM⟩ := gb_some hM
  refine g_callW (k := 3) (As := [.ref (ρ 0), .int (xs (gIx (x4 + (1 : Int32)))), .ref (ρ 66)]) C X2 hP hS (c_Law_fault hfl C.2.2.2.2.2.2.2.2.1 hq293) (gWs_at 722 (by decide +kernel) (by decide +kernel)) (gWs_at 721 (by decide +kernel) (by decide +kernel)) (gWs_at 116 (by decide +kernel) (by decide +kernel)) (gWs_at 720 (by decide +kernel) (by decide +kernel)) ⟨by decide +kernel, by decide +kernel, by decide +kernel⟩ rfl (by decide) (by decide) hc1 hc2 hl.1 rfl (Nat.le_of_ble_eq_true rfl) d_law_293 (fun H locs hP hS => ?_)
  replace C := gX_more C hc1 hc2
  refine lv_istore (lv' := [(5, .int q293.1), (0, .ref b), (1, .ref (ρ 0)), (2, .ref (ρ 42)), (3, .ref (ρ 66)), (4, .int x4)]) hx hb d_law_296 hl (by decide) rfl (fun ls hl => ?_)
  refine lv_aload_n hx hb d_law_298 rfl (lv_at hl 3 rfl) ?_
  refine lv_aload_n hx hb d_law_299 rfl (lv_at hl 1 rfl) ?_
  refine lv_iload hx hb d_law_300 (lv_at hl 5 rfl) ?_
  refine lv_iconst (v := (1 : Int32)) hx hb d_law_302 (by decide) ?_
  refine lv_iadd hx hb d_law_303 ?_
  obtain ⟨hi304, hM⟩ := gc_some hM
  refine va_sld hx hb hX hbl hbA hS (gIn_in hi304) d_law_304 ?_
  obtain ⟨q305, hq305, hM⟩ := gb_some hM
  refine g_backI (g_runV (As := [.int (xs (gIx (x4 + (1 : Int32))))]) C hP (c_Model_fault C.2.2.2.2.2.2.2.2.1 hq305) gi_Model_fault gm_Law_78 rfl rfl (by decide) (by decide) hl.1 rfl (Nat.le_of_ble_eq_true rfl) d_law_305) hS (fun H locs hP hS => ?_)
  refine lv_istore (lv' := [(6, .int q305.1), (5, .int q293.1), (0, .ref b), (1, .ref (ρ 0)), (2, .ref (ρ 42)), (3, .ref (ρ 66)), (4, .int x4)]) hx hb d_law_308 hl (by decide) rfl (fun ls hl => ?_)
  refine lv_aload_n hx hb d_law_310 rfl (lv_at hl 4 rfl) ?_
  obtain ⟨q311, hq311, hM⟩ := gb_some hM
  refine g_backI (g_runV (As := []) C hP (c_Model_thrown C.2.2.2.2.2.2.2.2.1 hq311) gi_Model_thrown gm_Law_64 rfl rfl (by decide) (by decide) hl.1 rfl (Nat.le_of_ble_eq_true rfl) d_law_311) hS (fun H locs hP hS => ?_)
  refine lv_iload hx hb d_law_314 (lv_at hl 1 rfl) ?_
  refine lv_icmp_eq (tgt := 321) hx hb d_law_316 (by decide) (fun hc316 => ?_) (fun hc316 => ?_)
  · replace hM := gi_t hc316 hM
    refine lv_iload hx hb d_law_321 (lv_at hl 1 rfl) ?_
    refine lv_if_ne (tgt := 338) hx hb d_law_323 (by decide) (fun hc323 => ?_) (fun hc323 => ?_)
    · replace hM := gi_f hc323 hM
      refine lv_goto (tgt := 975) hx hb d_law_338 (by decide) ?_
      refine lv_iinc (k := 6) (v := x4 + (6 : Int32)) (lv' := [(4, .int (x4 + (6 : Int32))), (6, .int q305.1), (5, .int q293.1), (0, .ref b), (1, .ref (ρ 0)), (2, .ref (ρ 42)), (3, .ref (ρ 66))]) hx hb d_law_975 hl rfl (congrArg (fun z => x4 + z) (by decide)) (by decide) rfl (fun ls hl => ?_)
      refine lv_goto (tgt := 23) hx hb d_law_978 (by decide) ?_
      obtain rfl := Option.some.inj hM
      refine W.widen (k := cells + 1) (n := slots + 6) (by omega) (by omega) ?_
      exact hN ls H locs (lv_sub hl [3, 4, 5, 6, 0] rfl) hP hS
    · replace hM := gi_t hc323 hM
      refine lv_aload_n hx hb d_law_326 rfl (lv_at hl 5 rfl) ?_
      refine lv_iconst (v := (0 : Int32)) hx hb d_law_327 (by decide) ?_
      obtain ⟨hi328, hM⟩ := gc_some hM
      refine g_lald C hP rfl hi328 d_law_328 ?_
      refine lv_iload hx hb d_law_329 (lv_at hl 0 rfl) ?_
      refine lv_i2l (v := q305.1.toInt64) hx hb d_law_331 rfl ?_
      refine W.lcmp hx hb d_law_332 ?_
      refine lv_if_eq (tgt := 338) hx hb d_law_333 (by decide) (fun hc333 => ?_) (fun hc333 => ?_)
      · replace hM := gi_t hc333 hM
        refine lv_goto (tgt := 975) hx hb d_law_338 (by decide) ?_
        refine lv_iinc (k := 6) (v := x4 + (6 : Int32)) (lv' := [(4, .int (x4 + (6 : Int32))), (6, .int q305.1), (5, .int q293.1), (0, .ref b), (1, .ref (ρ 0)), (2, .ref (ρ 42)), (3, .ref (ρ 66))]) hx hb d_law_975 hl rfl (congrArg (fun z => x4 + z) (by decide)) (by decide) rfl (fun ls hl => ?_)
        refine lv_goto (tgt := 23) hx hb d_law_978 (by decide) ?_
        obtain rfl := Option.some.inj hM
        refine W.widen (k := cells + 1) (n := slots + 6) (by omega) (by omega) ?_
        exact hN ls H locs (lv_sub hl [3, 4, 5, 6, 0] rfl) hP hS
      · replace hM := gi_f hc333 hM
        refine lv_iconst (v := (0 : Int32)) hx hb d_law_336 (by decide) ?_
        cases hM
  · replace hM := gi_f hc316 hM
    refine lv_iconst (v := (0 : Int32)) hx hb d_law_319 (by decide) ?_
    cases hM
noncomputable def M_Law_c4 (L : Nat) (xs : Nat → Int32) (x4 : Int32) (u : gSt) : Option gSt :=
  gc (gIn (x4 + (1 : Int32)) L) <| (M_Law_about (xs (gIx (x4 + (1 : Int32)))) u).bind fun q349 =>
  gc (gIn (x4 + (1 : Int32)) L) <| (M_Model_about (xs (gIx (x4 + (1 : Int32)))) q349.2).bind fun q361 =>
  (M_Model_thrown q361.2).bind fun q367 =>
  if q367.1 = q349.1 then
    (if q349.1 = (0 : Int32) then
      (gc (gIn (0 : Int32) (gLen 66)) <| if (lg_cmp (q367.2.2.2.2 66 (gIx (0 : Int32))) q361.1.toInt64) = (0 : Int32) then
        (some q367.2)
      else
        (none))
    else
      (some q367.2))
  else
    (none)
set_option maxHeartbeats 4000000 in
set_option maxRecDepth 100000 in
theorem t_Law_c4 (C : gX "TermDeskLaw" code 7 ret 12 428 R cells slots cy D ρ A p s m args meth c) (X2 : gX2 A s) (hfl : l.stackTraces = false) (hc1 : cells + 1 ≤ R.cells) (hc2 : slots + 6 ≤ R.slots) {b L : Nat} {xs : Nat → Int32} (hX : va_X b L xs s s.heap) (hbl : b < s.heap.size) (hbA : ¬ A b) {x4 : Int32} {u z : gSt} (hM : M_Law_c4 L xs x4 u = some z) (hN : ∀ (ls : Array Slot) (H : Heap) (locs : List Loc), lv_has ls 7 [(0, .ref b), (1, .ref (ρ 0)), (2, .ref (ρ 42)), (3, .ref (ρ 66)), (4, .int (x4 + (6 : Int32)))] → va_P D gCl (gW cy ρ z) H → va_S A s.heap H locs → W p l e R s m args below meth c H locs (cells + 1) (slots + 6) Q (F0 m 23 ls [])) (ls : Array Slot) (H : Heap) (locs : List Loc) (hl : lv_has ls 7 [(0, .ref b), (1, .ref (ρ 0)), (2, .ref (ρ 42)), (3, .ref (ρ 66)), (4, .int x4)]) (hP : va_P D gCl (gW cy ρ u) H) (hS : va_S A s.heap H locs) : W p l e R s m args below meth c H locs cells slots Q (F0 m 341 ls []) := by
  have hx := C.1
  have hb := C.2.1
  unfold M_Law_c4 at hM
  refine lv_aload_n hx hb d_law_341 rfl (lv_at hl 1 rfl) ?_
  refine lv_aload_n hx hb d_law_342 rfl (lv_at hl 0 rfl) ?_
  refine lv_iload hx hb d_law_343 (lv_at hl 4 rfl) ?_
  refine lv_iconst (v := (1 : Int32)) hx hb d_law_345 (by decide) ?_
  refine lv_iadd hx hb d_law_346 ?_
  obtain ⟨hi347, hM⟩ := gc_some hM
  refine va_sld hx hb hX hbl hbA hS (gIn_in hi347) d_law_347 ?_
  refine lv_aload_n hx hb d_law_348 rfl (lv_at hl 3 rfl) ?_
  obtain ⟨q349, hq349, hM⟩ := gb_some hM
  refine g_callW (k := 3) (As := [.ref (ρ 0), .int (xs (gIx (x4 + (1 : Int32)))), .ref (ρ 66)]) C X2 hP hS (c_Law_about hfl C.2.2.2.2.2.2.2.2.1 hq349) (gWs_at 730 (by decide +kernel) (by decide +kernel)) (gWs_at 729 (by decide +kernel) (by decide +kernel)) (gWs_at 116 (by decide +kernel) (by decide +kernel)) (gWs_at 728 (by decide +kernel) (by decide +kernel)) ⟨by decide +kernel, by decide +kernel, by decide +kernel⟩ rfl (by decide) (by decide) hc1 hc2 hl.1 rfl (Nat.le_of_ble_eq_true rfl) d_law_349 (fun H locs hP hS => ?_)
  replace C := gX_more C hc1 hc2
  refine lv_istore (lv' := [(5, .int q349.1), (0, .ref b), (1, .ref (ρ 0)), (2, .ref (ρ 42)), (3, .ref (ρ 66)), (4, .int x4)]) hx hb d_law_352 hl (by decide) rfl (fun ls hl => ?_)
  refine lv_aload_n hx hb d_law_354 rfl (lv_at hl 3 rfl) ?_
  refine lv_aload_n hx hb d_law_355 rfl (lv_at hl 1 rfl) ?_
  refine lv_iload hx hb d_law_356 (lv_at hl 5 rfl) ?_
  refine lv_iconst (v := (1 : Int32)) hx hb d_law_358 (by decide) ?_
  refine lv_iadd hx hb d_law_359 ?_
  obtain ⟨hi360, hM⟩ := gc_some hM
  refine va_sld hx hb hX hbl hbA hS (gIn_in hi360) d_law_360 ?_
  obtain ⟨q361, hq361, hM⟩ := gb_some hM
  refine g_backI (g_runV (As := [.int (xs (gIx (x4 + (1 : Int32))))]) C hP (c_Model_about C.2.2.2.2.2.2.2.2.1 hq361) gi_Model_about gm_Law_81 rfl rfl (by decide) (by decide) hl.1 rfl (Nat.le_of_ble_eq_true rfl) d_law_361) hS (fun H locs hP hS => ?_)
  refine lv_istore (lv' := [(6, .int q361.1), (5, .int q349.1), (0, .ref b), (1, .ref (ρ 0)), (2, .ref (ρ 42)), (3, .ref (ρ 66)), (4, .int x4)]) hx hb d_law_364 hl (by decide) rfl (fun ls hl => ?_)
  refine lv_aload_n hx hb d_law_366 rfl (lv_at hl 4 rfl) ?_
  obtain ⟨q367, hq367, hM⟩ := gb_some hM
  refine g_backI (g_runV (As := []) C hP (c_Model_thrown C.2.2.2.2.2.2.2.2.1 hq367) gi_Model_thrown gm_Law_64 rfl rfl (by decide) (by decide) hl.1 rfl (Nat.le_of_ble_eq_true rfl) d_law_367) hS (fun H locs hP hS => ?_)
  refine lv_iload hx hb d_law_370 (lv_at hl 1 rfl) ?_
  refine lv_icmp_eq (tgt := 377) hx hb d_law_372 (by decide) (fun hc372 => ?_) (fun hc372 => ?_)
  · replace hM := gi_t hc372 hM
    refine lv_iload hx hb d_law_377 (lv_at hl 1 rfl) ?_
    refine lv_if_ne (tgt := 394) hx hb d_law_379 (by decide) (fun hc379 => ?_) (fun hc379 => ?_)
    · replace hM := gi_f hc379 hM
      refine lv_goto (tgt := 975) hx hb d_law_394 (by decide) ?_
      refine lv_iinc (k := 6) (v := x4 + (6 : Int32)) (lv' := [(4, .int (x4 + (6 : Int32))), (6, .int q361.1), (5, .int q349.1), (0, .ref b), (1, .ref (ρ 0)), (2, .ref (ρ 42)), (3, .ref (ρ 66))]) hx hb d_law_975 hl rfl (congrArg (fun z => x4 + z) (by decide)) (by decide) rfl (fun ls hl => ?_)
      refine lv_goto (tgt := 23) hx hb d_law_978 (by decide) ?_
      obtain rfl := Option.some.inj hM
      refine W.widen (k := cells + 1) (n := slots + 6) (by omega) (by omega) ?_
      exact hN ls H locs (lv_sub hl [3, 4, 5, 6, 0] rfl) hP hS
    · replace hM := gi_t hc379 hM
      refine lv_aload_n hx hb d_law_382 rfl (lv_at hl 5 rfl) ?_
      refine lv_iconst (v := (0 : Int32)) hx hb d_law_383 (by decide) ?_
      obtain ⟨hi384, hM⟩ := gc_some hM
      refine g_lald C hP rfl hi384 d_law_384 ?_
      refine lv_iload hx hb d_law_385 (lv_at hl 0 rfl) ?_
      refine lv_i2l (v := q361.1.toInt64) hx hb d_law_387 rfl ?_
      refine W.lcmp hx hb d_law_388 ?_
      refine lv_if_eq (tgt := 394) hx hb d_law_389 (by decide) (fun hc389 => ?_) (fun hc389 => ?_)
      · replace hM := gi_t hc389 hM
        refine lv_goto (tgt := 975) hx hb d_law_394 (by decide) ?_
        refine lv_iinc (k := 6) (v := x4 + (6 : Int32)) (lv' := [(4, .int (x4 + (6 : Int32))), (6, .int q361.1), (5, .int q349.1), (0, .ref b), (1, .ref (ρ 0)), (2, .ref (ρ 42)), (3, .ref (ρ 66))]) hx hb d_law_975 hl rfl (congrArg (fun z => x4 + z) (by decide)) (by decide) rfl (fun ls hl => ?_)
        refine lv_goto (tgt := 23) hx hb d_law_978 (by decide) ?_
        obtain rfl := Option.some.inj hM
        refine W.widen (k := cells + 1) (n := slots + 6) (by omega) (by omega) ?_
        exact hN ls H locs (lv_sub hl [3, 4, 5, 6, 0] rfl) hP hS
      · replace hM := gi_f hc389 hM
        refine lv_iconst (v := (0 : Int32)) hx hb d_law_392 (by decide) ?_
        cases hM
  · replace hM := gi_f hc372 hM
    refine lv_iconst (v := (0 : Int32)) hx hb d_law_375 (by decide) ?_
    cases hM
noncomputable def M_Law_c5 (L : Nat) (xs : Nat → Int32) (x4 : Int32) (u : gSt) : Option gSt :=
  gc (gIn (x4 + (1 : Int32)) L) <| gc (gIn (x4 + (2 : Int32)) L) <| (M_Law_term (xs (gIx (x4 + (1 : Int32)))) (xs (gIx (x4 + (2 : Int32)))) u).bind fun q411 =>
  gc (gIn (x4 + (1 : Int32)) L) <| gc (gIn (x4 + (2 : Int32)) L) <| (M_Model_term (xs (gIx (x4 + (1 : Int32)))) (xs (gIx (x4 + (2 : Int32)))) q411.2).bind fun q429 =>
  (M_Model_thrown q429.2).bind fun q435 =>
  if q435.1 = q411.1 then
    (if q411.1 = (0 : Int32) then
      (gc (gIn (0 : Int32) (gLen 66)) <| if (lg_cmp (q435.2.2.2.2 66 (gIx (0 : Int32))) q429.1.toInt64) = (0 : Int32) then
        (some q435.2)
      else
        (none))
    else
      (some q435.2))
  else
    (none)
set_option maxHeartbeats 4000000 in
set_option maxRecDepth 100000 in
theorem t_Law_c5 (C : gX "TermDeskLaw" code 7 ret 12 428 R cells slots cy D ρ A p s m args meth c) (X2 : gX2 A s) (hfl : l.stackTraces = false) (hc1 : cells + 1 ≤ R.cells) (hc2 : slots + 6 ≤ R.slots) {b L : Nat} {xs : Nat → Int32} (hX : va_X b L xs s s.heap) (hbl : b < s.heap.size) (hbA : ¬ A b) {x4 : Int32} {u z : gSt} (hM : M_Law_c5 L xs x4 u = some z) (hN : ∀ (ls : Array Slot) (H : Heap) (locs : List Loc), lv_has ls 7 [(0, .ref b), (1, .ref (ρ 0)), (2, .ref (ρ 42)), (3, .ref (ρ 66)), (4, .int (x4 + (6 : Int32)))] → va_P D gCl (gW cy ρ z) H → va_S A s.heap H locs → W p l e R s m args below meth c H locs (cells + 1) (slots + 6) Q (F0 m 23 ls [])) (ls : Array Slot) (H : Heap) (locs : List Loc) (hl : lv_has ls 7 [(0, .ref b), (1, .ref (ρ 0)), (2, .ref (ρ 42)), (3, .ref (ρ 66)), (4, .int x4)]) (hP : va_P D gCl (gW cy ρ u) H) (hS : va_S A s.heap H locs) : W p l e R s m args below meth c H locs cells slots Q (F0 m 397 ls []) := by
  have hx := C.1
  have hb := C.2.1
  unfold M_Law_c5 at hM
  refine lv_aload_n hx hb d_law_397 rfl (lv_at hl 1 rfl) ?_
  refine lv_aload_n hx hb d_law_398 rfl (lv_at hl 0 rfl) ?_
  refine lv_iload hx hb d_law_399 (lv_at hl 4 rfl) ?_
  refine lv_iconst (v := (1 : Int32)) hx hb d_law_401 (by decide) ?_
  refine lv_iadd hx hb d_law_402 ?_
  obtain ⟨hi403, hM⟩ := gc_some hM
  refine va_sld hx hb hX hbl hbA hS (gIn_in hi403) d_law_403 ?_
  refine lv_aload_n hx hb d_law_404 rfl (lv_at hl 0 rfl) ?_
  refine lv_iload hx hb d_law_405 (lv_at hl 4 rfl) ?_
  refine lv_iconst (v := (2 : Int32)) hx hb d_law_407 (by decide) ?_
  refine lv_iadd hx hb d_law_408 ?_
  obtain ⟨hi409, hM⟩ := gc_some hM
  refine va_sld hx hb hX hbl hbA hS (gIn_in hi409) d_law_409 ?_
  refine lv_aload_n hx hb d_law_410 rfl (lv_at hl 3 rfl) ?_
  obtain ⟨q411, hq411, hM⟩ := gb_some hM
  refine g_callW (k := 4) (As := [.ref (ρ 0), .int (xs (gIx (x4 + (1 : Int32)))), .int (xs (gIx (x4 + (2 : Int32)))), .ref (ρ 66)]) C X2 hP hS (c_Law_term hfl C.2.2.2.2.2.2.2.2.1 hq411) (gWs_at 774 (by decide +kernel) (by decide +kernel)) (gWs_at 773 (by decide +kernel) (by decide +kernel)) (gWs_at 116 (by decide +kernel) (by decide +kernel)) (gWs_at 772 (by decide +kernel) (by decide +kernel)) ⟨by decide +kernel, by decide +kernel, by decide +kernel⟩ rfl (by decide) (by decide) hc1 hc2 hl.1 rfl (Nat.le_of_ble_eq_true rfl) d_law_411 (fun H locs hP hS => ?_)
  replace C := gX_more C hc1 hc2
  refine lv_istore (lv' := [(5, .int q411.1), (0, .ref b), (1, .ref (ρ 0)), (2, .ref (ρ 42)), (3, .ref (ρ 66)), (4, .int x4)]) hx hb d_law_414 hl (by decide) rfl (fun ls hl => ?_)
  refine lv_aload_n hx hb d_law_416 rfl (lv_at hl 3 rfl) ?_
  refine lv_aload_n hx hb d_law_417 rfl (lv_at hl 1 rfl) ?_
  refine lv_iload hx hb d_law_418 (lv_at hl 5 rfl) ?_
  refine lv_iconst (v := (1 : Int32)) hx hb d_law_420 (by decide) ?_
  refine lv_iadd hx hb d_law_421 ?_
  obtain ⟨hi422, hM⟩ := gc_some hM
  refine va_sld hx hb hX hbl hbA hS (gIn_in hi422) d_law_422 ?_
  refine lv_aload_n hx hb d_law_423 rfl (lv_at hl 1 rfl) ?_
  refine lv_iload hx hb d_law_424 (lv_at hl 5 rfl) ?_
  refine lv_iconst (v := (2 : Int32)) hx hb d_law_426 (by decide) ?_
  refine lv_iadd hx hb d_law_427 ?_
  obtain ⟨hi428, hM⟩ := gc_some hM
  refine va_sld hx hb hX hbl hbA hS (gIn_in hi428) d_law_428 ?_
  obtain ⟨q429, hq429, hM⟩ := gb_some hM
  refine g_backI (g_runV (As := [.int (xs (gIx (x4 + (1 : Int32)))), .int (xs (gIx (x4 + (2 : Int32))))]) C hP (c_Model_term C.2.2.2.2.2.2.2.2.1 hq429) gi_Model_term gm_Law_85 rfl rfl (by decide) (by decide) hl.1 rfl (Nat.le_of_ble_eq_true rfl) d_law_429) hS (fun H locs hP hS => ?_)
  refine lv_istore (lv' := [(6, .int q429.1), (5, .int q411.1), (0, .ref b), (1, .ref (ρ 0)), (2, .ref (ρ 42)), (3, .ref (ρ 66)), (4, .int x4)]) hx hb d_law_432 hl (by decide) rfl (fun ls hl => ?_)
  refine lv_aload_n hx hb d_law_434 rfl (lv_at hl 4 rfl) ?_
  obtain ⟨q435, hq435, hM⟩ := gb_some hM
  refine g_backI (g_runV (As := []) C hP (c_Model_thrown C.2.2.2.2.2.2.2.2.1 hq435) gi_Model_thrown gm_Law_64 rfl rfl (by decide) (by decide) hl.1 rfl (Nat.le_of_ble_eq_true rfl) d_law_435) hS (fun H locs hP hS => ?_)
  refine lv_iload hx hb d_law_438 (lv_at hl 1 rfl) ?_
  refine lv_icmp_eq (tgt := 445) hx hb d_law_440 (by decide) (fun hc440 => ?_) (fun hc440 => ?_)
  · replace hM := gi_t hc440 hM
    refine lv_iload hx hb d_law_445 (lv_at hl 1 rfl) ?_
    refine lv_if_ne (tgt := 462) hx hb d_law_447 (by decide) (fun hc447 => ?_) (fun hc447 => ?_)
    · replace hM := gi_f hc447 hM
      refine lv_goto (tgt := 975) hx hb d_law_462 (by decide) ?_
      refine lv_iinc (k := 6) (v := x4 + (6 : Int32)) (lv' := [(4, .int (x4 + (6 : Int32))), (6, .int q429.1), (5, .int q411.1), (0, .ref b), (1, .ref (ρ 0)), (2, .ref (ρ 42)), (3, .ref (ρ 66))]) hx hb d_law_975 hl rfl (congrArg (fun z => x4 + z) (by decide)) (by decide) rfl (fun ls hl => ?_)
      refine lv_goto (tgt := 23) hx hb d_law_978 (by decide) ?_
      obtain rfl := Option.some.inj hM
      refine W.widen (k := cells + 1) (n := slots + 6) (by omega) (by omega) ?_
      exact hN ls H locs (lv_sub hl [3, 4, 5, 6, 0] rfl) hP hS
    · replace hM := gi_t hc447 hM
      refine lv_aload_n hx hb d_law_450 rfl (lv_at hl 5 rfl) ?_
      refine lv_iconst (v := (0 : Int32)) hx hb d_law_451 (by decide) ?_
      obtain ⟨hi452, hM⟩ := gc_some hM
      refine g_lald C hP rfl hi452 d_law_452 ?_
      refine lv_iload hx hb d_law_453 (lv_at hl 0 rfl) ?_
      refine lv_i2l (v := q429.1.toInt64) hx hb d_law_455 rfl ?_
      refine W.lcmp hx hb d_law_456 ?_
      refine lv_if_eq (tgt := 462) hx hb d_law_457 (by decide) (fun hc457 => ?_) (fun hc457 => ?_)
      · replace hM := gi_t hc457 hM
        refine lv_goto (tgt := 975) hx hb d_law_462 (by decide) ?_
        refine lv_iinc (k := 6) (v := x4 + (6 : Int32)) (lv' := [(4, .int (x4 + (6 : Int32))), (6, .int q429.1), (5, .int q411.1), (0, .ref b), (1, .ref (ρ 0)), (2, .ref (ρ 42)), (3, .ref (ρ 66))]) hx hb d_law_975 hl rfl (congrArg (fun z => x4 + z) (by decide)) (by decide) rfl (fun ls hl => ?_)
        refine lv_goto (tgt := 23) hx hb d_law_978 (by decide) ?_
        obtain rfl := Option.some.inj hM
        refine W.widen (k := cells + 1) (n := slots + 6) (by omega) (by omega) ?_
        exact hN ls H locs (lv_sub hl [3, 4, 5, 6, 0] rfl) hP hS
      · replace hM := gi_f hc457 hM
        refine lv_iconst (v := (0 : Int32)) hx hb d_law_460 (by decide) ?_
        cases hM
  · replace hM := gi_f hc440 hM
    refine lv_iconst (v := (0 : Int32)) hx hb d_law_443 (by decide) ?_
    cases hM
noncomputable def M_Law_c6 (L : Nat) (xs : Nat → Int32) (x4 : Int32) (u : gSt) : Option gSt :=
  gc (gIn (x4 + (1 : Int32)) L) <| gc (gIn (x4 + (2 : Int32)) L) <| if (xs (gIx (x4 + (2 : Int32)))) = (0 : Int32) then
    (gc (gIn (x4 + (3 : Int32)) L) <| (M_Law_letter (xs (gIx (x4 + (1 : Int32)))) (0 : Int32) (xs (gIx (x4 + (3 : Int32)))) u).bind fun q493 =>
    gc (gIn (x4 + (1 : Int32)) L) <| gc (gIn (x4 + (2 : Int32)) L) <| if (xs (gIx (x4 + (2 : Int32)))) = (0 : Int32) then
      (gc (gIn (x4 + (3 : Int32)) L) <| (M_Model_letter (xs (gIx (x4 + (1 : Int32)))) (0 : Int32) (xs (gIx (x4 + (3 : Int32)))) q493.2).bind fun q525 =>
      (M_Model_thrown q525.2).bind fun q531 =>
      if q531.1 = q493.1 then
        (if q493.1 = (0 : Int32) then
          (gc (gIn (0 : Int32) (gLen 66)) <| if (lg_cmp (q531.2.2.2.2 66 (gIx (0 : Int32))) q525.1.toInt64) = (0 : Int32) then
            (some q531.2)
          else
            (none))
        else
          (some q531.2))
      else
        (none))
    else
      (gc (gIn (x4 + (3 : Int32)) L) <| (M_Model_letter (xs (gIx (x4 + (1 : Int32)))) (1 : Int32) (xs (gIx (x4 + (3 : Int32)))) q493.2).bind fun q525 =>
      (M_Model_thrown q525.2).bind fun q531 =>
      if q531.1 = q493.1 then
        (if q493.1 = (0 : Int32) then
          (gc (gIn (0 : Int32) (gLen 66)) <| if (lg_cmp (q531.2.2.2.2 66 (gIx (0 : Int32))) q525.1.toInt64) = (0 : Int32) then
            (some q531.2)
          else
            (none))
        else
          (some q531.2))
      else
        (none)))
  else
    (gc (gIn (x4 + (3 : Int32)) L) <| (M_Law_letter (xs (gIx (x4 + (1 : Int32)))) (1 : Int32) (xs (gIx (x4 + (3 : Int32)))) u).bind fun q493 =>
    gc (gIn (x4 + (1 : Int32)) L) <| gc (gIn (x4 + (2 : Int32)) L) <| if (xs (gIx (x4 + (2 : Int32)))) = (0 : Int32) then
      (gc (gIn (x4 + (3 : Int32)) L) <| (M_Model_letter (xs (gIx (x4 + (1 : Int32)))) (0 : Int32) (xs (gIx (x4 + (3 : Int32)))) q493.2).bind fun q525 =>
      (M_Model_thrown q525.2).bind fun q531 =>
      if q531.1 = q493.1 then
        (if q493.1 = (0 : Int32) then
          (gc (gIn (0 : Int32) (gLen 66)) <| if (lg_cmp (q531.2.2.2.2 66 (gIx (0 : Int32))) q525.1.toInt64) = (0 : Int32) then
            (some q531.2)
          else
            (none))
        else
          (some q531.2))
      else
        (none))
    else
      (gc (gIn (x4 + (3 : Int32)) L) <| (M_Model_letter (xs (gIx (x4 + (1 : Int32)))) (1 : Int32) (xs (gIx (x4 + (3 : Int32)))) q493.2).bind fun q525 =>
      (M_Model_thrown q525.2).bind fun q531 =>
      if q531.1 = q493.1 then
        (if q493.1 = (0 : Int32) then
          (gc (gIn (0 : Int32) (gLen 66)) <| if (lg_cmp (q531.2.2.2.2 66 (gIx (0 : Int32))) q525.1.toInt64) = (0 : Int32) then
            (some q531.2)
          else
            (none))
        else
          (some q531.2))
      else
        (none)))
set_option maxHeartbeats 4000000 in
set_option maxRecDepth 100000 in
theorem t_Law_c6 (C : gX "TermDeskLaw" code 7 ret 12 428 R cells slots cy D ρ A p s m args meth c) (X2 : gX2 A s) (hfl : l.stackTraces = false) (hc1 : cells + 1 ≤ R.cells) (hc2 : slots + 6 ≤ R.slots) {b L : Nat} {xs : Nat → Int32} (hX : va_X b L xs s s.heap) (hbl : b < s.heap.size) (hbA : ¬ A b) {x4 : Int32} {u z : gSt} (hM : M_Law_c6 L xs x4 u = some z) (hN : ∀ (ls : Array Slot) (H : Heap) (locs : List Loc), lv_has ls 7 [(0, .ref b), (1, .ref (ρ 0)), (2, .ref (ρ 42)), (3, .ref (ρ 66)), (4, .int (x4 + (6 : Int32)))] → va_P D gCl (gW cy ρ z) H → va_S A s.heap H locs → W p l e R s m args below meth c H locs (cells + 1) (slots + 6) Q (F0 m 23 ls [])) (ls : Array Slot) (H : Heap) (locs : List Loc) (hl : lv_has ls 7 [(0, .ref b), (1, .ref (ρ 0)), (2, .ref (ρ 42)), (3, .ref (ρ 66)), (4, .int x4)]) (hP : va_P D gCl (gW cy ρ u) H) (hS : va_S A s.heap H locs) : W p l e R s m args below meth c H locs cells slots Q (F0 m 465 ls []) := by
  have hx := C.1
  have hb := C.2.1
  unfold M_Law_c6 at hM
  refine lv_aload_n hx hb d_law_465 rfl (lv_at hl 1 rfl) ?_
  refine lv_aload_n hx hb d_law_466 rfl (lv_at hl 0 rfl) ?_
  refine lv_iload hx hb d_law_467 (lv_at hl 4 rfl) ?_
  refine lv_iconst (v := (1 : Int32)) hx hb d_law_469 (by decide) ?_
  refine lv_iadd hx hb d_law_470 ?_
  obtain ⟨hi471, hM⟩ := gc_some hM
  refine va_sld hx hb hX hbl hbA hS (gIn_in hi471) d_law_471 ?_
  refine lv_aload_n hx hb d_law_472 rfl (lv_at hl 0 rfl) ?_
  refine lv_iload hx hb d_law_473 (lv_at hl 4 rfl) ?_
  refine lv_iconst (v := (2 : Int32)) hx hb d_law_475 (by decide) ?_
  refine lv_iadd hx hb d_law_476 ?_
  obtain ⟨hi477, hM⟩ := gc_some hM
  refine va_sld hx hb hX hbl hbA hS (gIn_in hi477) d_law_477 ?_
  refine lv_if_eq (tgt := 485) hx hb d_law_478 (by decide) (fun hc478 => ?_) (fun hc478 => ?_)
  · replace hM := gi_t hc478 hM
    refine lv_iconst (v := (0 : Int32)) hx hb d_law_485 (by decide) ?_
    refine lv_aload_n hx hb d_law_486 rfl (lv_at hl 0 rfl) ?_
    refine lv_iload hx hb d_law_487 (lv_at hl 4 rfl) ?_
    refine lv_iconst (v := (3 : Int32)) hx hb d_law_489 (by decide) ?_
    refine lv_iadd hx hb d_law_490 ?_
    obtain ⟨hi491, hM⟩ := gc_some hM
    refine va_sld hx hb hX hbl hbA hS (gIn_in hi491) d_law_491 ?_
    refine lv_aload_n hx hb d_law_492 rfl (lv_at hl 3 rfl) ?_
    obtain ⟨q493, hq493, hM⟩ := gb_some hM
    refine g_callW (k := 5) (As := [.ref (ρ 0), .int (xs (gIx (x4 + (1 : Int32)))), .int (0 : Int32), .int (xs (gIx (x4 + (3 : Int32)))), .ref (ρ 66)]) C X2 hP hS (c_Law_letter hfl C.2.2.2.2.2.2.2.2.1 hq493) (gWs_at 819 (by decide +kernel) (by decide +kernel)) (gWs_at 818 (by decide +kernel) (by decide +kernel)) (gWs_at 116 (by decide +kernel) (by decide +kernel)) (gWs_at 817 (by decide +kernel) (by decide +kernel)) ⟨by decide +kernel, by decide +kernel, by decide +kernel⟩ rfl (by decide) (by decide) hc1 hc2 hl.1 rfl (Nat.le_of_ble_eq_true rfl) d_law_493 (fun H locs hP hS => ?_)
    replace C := gX_more C hc1 hc2
    refine lv_istore (lv' := [(5, .int q493.1), (0, .ref b), (1, .ref (ρ 0)), (2, .ref (ρ 42)), (3, .ref (ρ 66)), (4, .int x4)]) hx hb d_law_496 hl (by decide) rfl (fun ls hl => ?_)
    refine lv_aload_n hx hb d_law_498 rfl (lv_at hl 3 rfl) ?_
    refine lv_aload_n hx hb d_law_499 rfl (lv_at hl 1 rfl) ?_
    refine lv_iload hx hb d_law_500 (lv_at hl 5 rfl) ?_
    refine lv_iconst (v := (1 : Int32)) hx hb d_law_502 (by decide) ?_
    refine lv_iadd hx hb d_law_503 ?_
    obtain ⟨hi504, hM⟩ := gc_some hM
    refine va_sld hx hb hX hbl hbA hS (gIn_in hi504) d_law_504 ?_
    refine lv_aload_n hx hb d_law_505 rfl (lv_at hl 1 rfl) ?_
    refine lv_iload hx hb d_law_506 (lv_at hl 5 rfl) ?_
    refine lv_iconst (v := (2 : Int32)) hx hb d_law_508 (by decide) ?_
    refine lv_iadd hx hb d_law_509 ?_
    obtain ⟨hi510, hM⟩ := gc_some hM
    refine va_sld hx hb hX hbl hbA hS (gIn_in hi510) d_law_510 ?_
    refine lv_if_eq (tgt := 518) hx hb d_law_511 (by decide) (fun hc511 => ?_) (fun hc511 => ?_)
    · replace hM := gi_t hc511 hM
      refine lv_iconst (v := (0 : Int32)) hx hb d_law_518 (by decide) ?_
      refine lv_aload_n hx hb d_law_519 rfl (lv_at hl 1 rfl) ?_
      refine lv_iload hx hb d_law_520 (lv_at hl 5 rfl) ?_
      refine lv_iconst (v := (3 : Int32)) hx hb d_law_522 (by decide) ?_
      refine lv_iadd hx hb d_law_523 ?_
      obtain ⟨hi524, hM⟩ := gc_some hM
      refine va_sld hx hb hX hbl hbA hS (gIn_in hi524) d_law_524 ?_
      obtain ⟨q525, hq525, hM⟩ := gb_some hM
      refine g_backI (g_runV (As := [.int (xs (gIx (x4 + (1 : Int32)))), .int (0 : Int32), .int (xs (gIx (x4 + (3 : Int32))))]) C hP (c_Model_letter C.2.2.2.2.2.2.2.2.1 hq525) gi_Model_letter gm_Law_89 rfl rfl (by decide) (by decide) hl.1 rfl (Nat.le_of_ble_eq_true rfl) d_law_525) hS (fun H locs hP hS => ?_)
      refine lv_istore (lv' := [(6, .int q525.1), (5, .int q493.1), (0, .ref b), (1, .ref (ρ 0)), (2, .ref (ρ 42)), (3, .ref (ρ 66)), (4, .int x4)]) hx hb d_law_528 hl (by decide) rfl (fun ls hl => ?_)
      refine lv_aload_n hx hb d_law_530 rfl (lv_at hl 4 rfl) ?_
      obtain ⟨q531, hq531, hM⟩ := gb_some hM
      refine g_backI (g_runV (As := []) C hP (c_Model_thrown C.2.2.2.2.2.2.2.2.1 hq531) gi_Model_thrown gm_Law_64 rfl rfl (by decide) (by decide) hl.1 rfl (Nat.le_of_ble_eq_true rfl) d_law_531) hS (fun H locs hP hS => ?_)
      refine lv_iload hx hb d_law_534 (lv_at hl 1 rfl) ?_
      refine lv_icmp_eq (tgt := 541) hx hb d_law_536 (by decide) (fun hc536 => ?_) (fun hc536 => ?_)
      · replace hM := gi_t hc536 hM
        refine lv_iload hx hb d_law_541 (lv_at hl 1 rfl) ?_
        refine lv_if_ne (tgt := 558) hx hb d_law_543 (by decide) (fun hc543 => ?_) (fun hc543 => ?_)
        · replace hM := gi_f hc543 hM
          refine lv_goto (tgt := 975) hx hb d_law_558 (by decide) ?_
          refine lv_iinc (k := 6) (v := x4 + (6 : Int32)) (lv' := [(4, .int (x4 + (6 : Int32))), (6, .int q525.1), (5, .int q493.1), (0, .ref b), (1, .ref (ρ 0)), (2, .ref (ρ 42)), (3, .ref (ρ 66))]) hx hb d_law_975 hl rfl (congrArg (fun z => x4 + z) (by decide)) (by decide) rfl (fun ls hl => ?_)
          refine lv_goto (tgt := 23) hx hb d_law_978 (by decide) ?_
          obtain rfl := Option.some.inj hM
          refine W.widen (k := cells + 1) (n := slots + 6) (by omega) (by omega) ?_
          exact hN ls H locs (lv_sub hl [3, 4, 5, 6, 0] rfl) hP hS
        · replace hM := gi_t hc543 hM
          refine lv_aload_n hx hb d_law_546 rfl (lv_at hl 5 rfl) ?_
          refine lv_iconst (v := (0 : Int32)) hx hb d_law_547 (by decide) ?_
          obtain ⟨hi548, hM⟩ := gc_some hM
          refine g_lald C hP rfl hi548 d_law_548 ?_
          refine lv_iload hx hb d_law_549 (lv_at hl 0 rfl) ?_
          refine lv_i2l (v := q525.1.toInt64) hx hb d_law_551 rfl ?_
          refine W.lcmp hx hb d_law_552 ?_
          refine lv_if_eq (tgt := 558) hx hb d_law_553 (by decide) (fun hc553 => ?_) (fun hc553 => ?_)
          · replace hM := gi_t hc553 hM
            refine lv_goto (tgt := 975) hx hb d_law_558 (by decide) ?_
            refine lv_iinc (k := 6) (v := x4 + (6 : Int32)) (lv' := [(4, .int (x4 + (6 : Int32))), (6, .int q525.1), (5, .int q493.1), (0, .ref b), (1, .ref (ρ 0)), (2, .ref (ρ 42)), (3, .ref (ρ 66))]) hx hb d_law_975 hl rfl (congrArg (fun z => x4 + z) (by decide)) (by decide) rfl (fun ls hl => ?_)
            refine lv_goto (tgt := 23) hx hb d_law_978 (by decide) ?_
            obtain rfl := Option.some.inj hM
            refine W.widen (k := cells + 1) (n := slots + 6) (by omega) (by omega) ?_
            exact hN ls H locs (lv_sub hl [3, 4, 5, 6, 0] rfl) hP hS
          · replace hM := gi_f hc553 hM
            refine lv_iconst (v := (0 : Int32)) hx hb d_law_556 (by decide) ?_
            cases hM
      · replace hM := gi_f hc536 hM
        refine lv_iconst (v := (0 : Int32)) hx hb d_law_539 (by decide) ?_
        cases hM
    · replace hM := gi_f hc511 hM
      refine lv_iconst (v := (1 : Int32)) hx hb d_law_514 (by decide) ?_
      refine lv_goto (tgt := 519) hx hb d_law_515 (by decide) ?_
      refine lv_aload_n hx hb d_law_519 rfl (lv_at hl 1 rfl) ?_
      refine lv_iload hx hb d_law_520 (lv_at hl 5 rfl) ?_
      refine lv_iconst (v := (3 : Int32)) hx hb d_law_522 (by decide) ?_
      refine lv_iadd hx hb d_law_523 ?_
      obtain ⟨hi524, hM⟩ := gc_some hM
      refine va_sld hx hb hX hbl hbA hS (gIn_in hi524) d_law_524 ?_
      obtain ⟨q525, hq525, hM⟩ := gb_some hM
      refine g_backI (g_runV (As := [.int (xs (gIx (x4 + (1 : Int32)))), .int (1 : Int32), .int (xs (gIx (x4 + (3 : Int32))))]) C hP (c_Model_letter C.2.2.2.2.2.2.2.2.1 hq525) gi_Model_letter gm_Law_89 rfl rfl (by decide) (by decide) hl.1 rfl (Nat.le_of_ble_eq_true rfl) d_law_525) hS (fun H locs hP hS => ?_)
      refine lv_istore (lv' := [(6, .int q525.1), (5, .int q493.1), (0, .ref b), (1, .ref (ρ 0)), (2, .ref (ρ 42)), (3, .ref (ρ 66)), (4, .int x4)]) hx hb d_law_528 hl (by decide) rfl (fun ls hl => ?_)
      refine lv_aload_n hx hb d_law_530 rfl (lv_at hl 4 rfl) ?_
      obtain ⟨q531, hq531, hM⟩ := gb_some hM
      refine g_backI (g_runV (As := []) C hP (c_Model_thrown C.2.2.2.2.2.2.2.2.1 hq531) gi_Model_thrown gm_Law_64 rfl rfl (by decide) (by decide) hl.1 rfl (Nat.le_of_ble_eq_true rfl) d_law_531) hS (fun H locs hP hS => ?_)
      refine lv_iload hx hb d_law_534 (lv_at hl 1 rfl) ?_
      refine lv_icmp_eq (tgt := 541) hx hb d_law_536 (by decide) (fun hc536 => ?_) (fun hc536 => ?_)
      · replace hM := gi_t hc536 hM
        refine lv_iload hx hb d_law_541 (lv_at hl 1 rfl) ?_
        refine lv_if_ne (tgt := 558) hx hb d_law_543 (by decide) (fun hc543 => ?_) (fun hc543 => ?_)
        · replace hM := gi_f hc543 hM
          refine lv_goto (tgt := 975) hx hb d_law_558 (by decide) ?_
          refine lv_iinc (k := 6) (v := x4 + (6 : Int32)) (lv' := [(4, .int (x4 + (6 : Int32))), (6, .int q525.1), (5, .int q493.1), (0, .ref b), (1, .ref (ρ 0)), (2, .ref (ρ 42)), (3, .ref (ρ 66))]) hx hb d_law_975 hl rfl (congrArg (fun z => x4 + z) (by decide)) (by decide) rfl (fun ls hl => ?_)
          refine lv_goto (tgt := 23) hx hb d_law_978 (by decide) ?_
          obtain rfl := Option.some.inj hM
          refine W.widen (k := cells + 1) (n := slots + 6) (by omega) (by omega) ?_
          exact hN ls H locs (lv_sub hl [3, 4, 5, 6, 0] rfl) hP hS
        · replace hM := gi_t hc543 hM
          refine lv_aload_n hx hb d_law_546 rfl (lv_at hl 5 rfl) ?_
          refine lv_iconst (v := (0 : Int32)) hx hb d_law_547 (by decide) ?_
          obtain ⟨hi548, hM⟩ := gc_some hM
          refine g_lald C hP rfl hi548 d_law_548 ?_
          refine lv_iload hx hb d_law_549 (lv_at hl 0 rfl) ?_
          refine lv_i2l (v := q525.1.toInt64) hx hb d_law_551 rfl ?_
          refine W.lcmp hx hb d_law_552 ?_
          refine lv_if_eq (tgt := 558) hx hb d_law_553 (by decide) (fun hc553 => ?_) (fun hc553 => ?_)
          · replace hM := gi_t hc553 hM
            refine lv_goto (tgt := 975) hx hb d_law_558 (by decide) ?_
            refine lv_iinc (k := 6) (v := x4 + (6 : Int32)) (lv' := [(4, .int (x4 + (6 : Int32))), (6, .int q525.1), (5, .int q493.1), (0, .ref b), (1, .ref (ρ 0)), (2, .ref (ρ 42)), (3, .ref (ρ 66))]) hx hb d_law_975 hl rfl (congrArg (fun z => x4 + z) (by decide)) (by decide) rfl (fun ls hl => ?_)
            refine lv_goto (tgt := 23) hx hb d_law_978 (by decide) ?_
            obtain rfl := Option.some.inj hM
            refine W.widen (k := cells + 1) (n := slots + 6) (by omega) (by omega) ?_
            exact hN ls H locs (lv_sub hl [3, 4, 5, 6, 0] rfl) hP hS
          · replace hM := gi_f hc553 hM
            refine lv_iconst (v := (0 : Int32)) hx hb d_law_556 (by decide) ?_
            cases hM
      · replace hM := gi_f hc536 hM
        refine lv_iconst (v := (0 : Int32)) hx hb d_law_539 (by decide) ?_
        cases hM
  · replace hM := gi_f hc478 hM
    refine lv_iconst (v := (1 : Int32)) hx hb d_law_481 (by decide) ?_
    refine lv_goto (tgt := 486) hx hb d_law_482 (by decide) ?_
    refine lv_aload_n hx hb d_law_486 rfl (lv_at hl 0 rfl) ?_
    refine lv_iload hx hb d_law_487 (lv_at hl 4 rfl) ?_
    refine lv_iconst (v := (3 : Int32)) hx hb d_law_489 (by decide) ?_
    refine lv_iadd hx hb d_law_490 ?_
    obtain ⟨hi491, hM⟩ := gc_some hM
    refine va_sld hx hb hX hbl hbA hS (gIn_in hi491) d_law_491 ?_
    refine lv_aload_n hx hb d_law_492 rfl (lv_at hl 3 rfl) ?_
    obtain ⟨q493, hq493, hM⟩ := gb_some hM
    refine g_callW (k := 5) (As := [.ref (ρ 0), .int (xs (gIx (x4 + (1 : Int32)))), .int (1 : Int32), .int (xs (gIx (x4 + (3 : Int32)))), .ref (ρ 66)]) C X2 hP hS (c_Law_letter hfl C.2.2.2.2.2.2.2.2.1 hq493) (gWs_at 819 (by decide +kernel) (by decide +kernel)) (gWs_at 818 (by decide +kernel) (by decide +kernel)) (gWs_at 116 (by decide +kernel) (by decide +kernel)) (gWs_at 817 (by decide +kernel) (by decide +kernel)) ⟨by decide +kernel, by decide +kernel, by decide +kernel⟩ rfl (by decide) (by decide) hc1 hc2 hl.1 rfl (Nat.le_of_ble_eq_true rfl) d_law_493 (fun H locs hP hS => ?_)
    replace C := gX_more C hc1 hc2
    refine lv_istore (lv' := [(5, .int q493.1), (0, .ref b), (1, .ref (ρ 0)), (2, .ref (ρ 42)), (3, .ref (ρ 66)), (4, .int x4)]) hx hb d_law_496 hl (by decide) rfl (fun ls hl => ?_)
    refine lv_aload_n hx hb d_law_498 rfl (lv_at hl 3 rfl) ?_
    refine lv_aload_n hx hb d_law_499 rfl (lv_at hl 1 rfl) ?_
    refine lv_iload hx hb d_law_500 (lv_at hl 5 rfl) ?_
    refine lv_iconst (v := (1 : Int32)) hx hb d_law_502 (by decide) ?_
    refine lv_iadd hx hb d_law_503 ?_
    obtain ⟨hi504, hM⟩ := gc_some hM
    refine va_sld hx hb hX hbl hbA hS (gIn_in hi504) d_law_504 ?_
    refine lv_aload_n hx hb d_law_505 rfl (lv_at hl 1 rfl) ?_
    refine lv_iload hx hb d_law_506 (lv_at hl 5 rfl) ?_
    refine lv_iconst (v := (2 : Int32)) hx hb d_law_508 (by decide) ?_
    refine lv_iadd hx hb d_law_509 ?_
    obtain ⟨hi510, hM⟩ := gc_some hM
    refine va_sld hx hb hX hbl hbA hS (gIn_in hi510) d_law_510 ?_
    refine lv_if_eq (tgt := 518) hx hb d_law_511 (by decide) (fun hc511 => ?_) (fun hc511 => ?_)
    · replace hM := gi_t hc511 hM
      refine lv_iconst (v := (0 : Int32)) hx hb d_law_518 (by decide) ?_
      refine lv_aload_n hx hb d_law_519 rfl (lv_at hl 1 rfl) ?_
      refine lv_iload hx hb d_law_520 (lv_at hl 5 rfl) ?_
      refine lv_iconst (v := (3 : Int32)) hx hb d_law_522 (by decide) ?_
      refine lv_iadd hx hb d_law_523 ?_
      obtain ⟨hi524, hM⟩ := gc_some hM
      refine va_sld hx hb hX hbl hbA hS (gIn_in hi524) d_law_524 ?_
      obtain ⟨q525, hq525, hM⟩ := gb_some hM
      refine g_backI (g_runV (As := [.int (xs (gIx (x4 + (1 : Int32)))), .int (0 : Int32), .int (xs (gIx (x4 + (3 : Int32))))]) C hP (c_Model_letter C.2.2.2.2.2.2.2.2.1 hq525) gi_Model_letter gm_Law_89 rfl rfl (by decide) (by decide) hl.1 rfl (Nat.le_of_ble_eq_true rfl) d_law_525) hS (fun H locs hP hS => ?_)
      refine lv_istore (lv' := [(6, .int q525.1), (5, .int q493.1), (0, .ref b), (1, .ref (ρ 0)), (2, .ref (ρ 42)), (3, .ref (ρ 66)), (4, .int x4)]) hx hb d_law_528 hl (by decide) rfl (fun ls hl => ?_)
      refine lv_aload_n hx hb d_law_530 rfl (lv_at hl 4 rfl) ?_
      obtain ⟨q531, hq531, hM⟩ := gb_some hM
      refine g_backI (g_runV (As := []) C hP (c_Model_thrown C.2.2.2.2.2.2.2.2.1 hq531) gi_Model_thrown gm_Law_64 rfl rfl (by decide) (by decide) hl.1 rfl (Nat.le_of_ble_eq_true rfl) d_law_531) hS (fun H locs hP hS => ?_)
      refine lv_iload hx hb d_law_534 (lv_at hl 1 rfl) ?_
      refine lv_icmp_eq (tgt := 541) hx hb d_law_536 (by decide) (fun hc536 => ?_) (fun hc536 => ?_)
      · replace hM := gi_t hc536 hM
        refine lv_iload hx hb d_law_541 (lv_at hl 1 rfl) ?_
        refine lv_if_ne (tgt := 558) hx hb d_law_543 (by decide) (fun hc543 => ?_) (fun hc543 => ?_)
        · replace hM := gi_f hc543 hM
          refine lv_goto (tgt := 975) hx hb d_law_558 (by decide) ?_
          refine lv_iinc (k := 6) (v := x4 + (6 : Int32)) (lv' := [(4, .int (x4 + (6 : Int32))), (6, .int q525.1), (5, .int q493.1), (0, .ref b), (1, .ref (ρ 0)), (2, .ref (ρ 42)), (3, .ref (ρ 66))]) hx hb d_law_975 hl rfl (congrArg (fun z => x4 + z) (by decide)) (by decide) rfl (fun ls hl => ?_)
          refine lv_goto (tgt := 23) hx hb d_law_978 (by decide) ?_
          obtain rfl := Option.some.inj hM
          refine W.widen (k := cells + 1) (n := slots + 6) (by omega) (by omega) ?_
          exact hN ls H locs (lv_sub hl [3, 4, 5, 6, 0] rfl) hP hS
        · replace hM := gi_t hc543 hM
          refine lv_aload_n hx hb d_law_546 rfl (lv_at hl 5 rfl) ?_
          refine lv_iconst (v := (0 : Int32)) hx hb d_law_547 (by decide) ?_
          obtain ⟨hi548, hM⟩ := gc_some hM
          refine g_lald C hP rfl hi548 d_law_548 ?_
          refine lv_iload hx hb d_law_549 (lv_at hl 0 rfl) ?_
          refine lv_i2l (v := q525.1.toInt64) hx hb d_law_551 rfl ?_
          refine W.lcmp hx hb d_law_552 ?_
          refine lv_if_eq (tgt := 558) hx hb d_law_553 (by decide) (fun hc553 => ?_) (fun hc553 => ?_)
          · replace hM := gi_t hc553 hM
            refine lv_goto (tgt := 975) hx hb d_law_558 (by decide) ?_
            refine lv_iinc (k := 6) (v := x4 + (6 : Int32)) (lv' := [(4, .int (x4 + (6 : Int32))), (6, .int q525.1), (5, .int q493.1), (0, .ref b), (1, .ref (ρ 0)), (2, .ref (ρ 42)), (3, .ref (ρ 66))]) hx hb d_law_975 hl rfl (congrArg (fun z => x4 + z) (by decide)) (by decide) rfl (fun ls hl => ?_)
            refine lv_goto (tgt := 23) hx hb d_law_978 (by decide) ?_
            obtain rfl := Option.some.inj hM
            refine W.widen (k := cells + 1) (n := slots + 6) (by omega) (by omega) ?_
            exact hN ls H locs (lv_sub hl [3, 4, 5, 6, 0] rfl) hP hS
          · replace hM := gi_f hc553 hM
            refine lv_iconst (v := (0 : Int32)) hx hb d_law_556 (by decide) ?_
            cases hM
      · replace hM := gi_f hc536 hM
        refine lv_iconst (v := (0 : Int32)) hx hb d_law_539 (by decide) ?_
        cases hM
    · replace hM := gi_f hc511 hM
      refine lv_iconst (v := (1 : Int32)) hx hb d_law_514 (by decide) ?_
      refine lv_goto (tgt := 519) hx hb d_law_515 (by decide) ?_
      refine lv_aload_n hx hb d_law_519 rfl (lv_at hl 1 rfl) ?_
      refine lv_iload hx hb d_law_520 (lv_at hl 5 rfl) ?_
      refine lv_iconst (v := (3 : Int32)) hx hb d_law_522 (by decide) ?_
      refine lv_iadd hx hb d_law_523 ?_
      obtain ⟨hi524, hM⟩ := gc_some hM
      refine va_sld hx hb hX hbl hbA hS (gIn_in hi524) d_law_524 ?_
      obtain ⟨q525, hq525, hM⟩ := gb_some hM
      refine g_backI (g_runV (As := [.int (xs (gIx (x4 + (1 : Int32)))), .int (1 : Int32), .int (xs (gIx (x4 + (3 : Int32))))]) C hP (c_Model_letter C.2.2.2.2.2.2.2.2.1 hq525) gi_Model_letter gm_Law_89 rfl rfl (by decide) (by decide) hl.1 rfl (Nat.le_of_ble_eq_true rfl) d_law_525) hS (fun H locs hP hS => ?_)
      refine lv_istore (lv' := [(6, .int q525.1), (5, .int q493.1), (0, .ref b), (1, .ref (ρ 0)), (2, .ref (ρ 42)), (3, .ref (ρ 66)), (4, .int x4)]) hx hb d_law_528 hl (by decide) rfl (fun ls hl => ?_)
      refine lv_aload_n hx hb d_law_530 rfl (lv_at hl 4 rfl) ?_
      obtain ⟨q531, hq531, hM⟩ := gb_some hM
      refine g_backI (g_runV (As := []) C hP (c_Model_thrown C.2.2.2.2.2.2.2.2.1 hq531) gi_Model_thrown gm_Law_64 rfl rfl (by decide) (by decide) hl.1 rfl (Nat.le_of_ble_eq_true rfl) d_law_531) hS (fun H locs hP hS => ?_)
      refine lv_iload hx hb d_law_534 (lv_at hl 1 rfl) ?_
      refine lv_icmp_eq (tgt := 541) hx hb d_law_536 (by decide) (fun hc536 => ?_) (fun hc536 => ?_)
      · replace hM := gi_t hc536 hM
        refine lv_iload hx hb d_law_541 (lv_at hl 1 rfl) ?_
        refine lv_if_ne (tgt := 558) hx hb d_law_543 (by decide) (fun hc543 => ?_) (fun hc543 => ?_)
        · replace hM := gi_f hc543 hM
          refine lv_goto (tgt := 975) hx hb d_law_558 (by decide) ?_
          refine lv_iinc (k := 6) (v := x4 + (6 : Int32)) (lv' := [(4, .int (x4 + (6 : Int32))), (6, .int q525.1), (5, .int q493.1), (0, .ref b), (1, .ref (ρ 0)), (2, .ref (ρ 42)), (3, .ref (ρ 66))]) hx hb d_law_975 hl rfl (congrArg (fun z => x4 + z) (by decide)) (by decide) rfl (fun ls hl => ?_)
          refine lv_goto (tgt := 23) hx hb d_law_978 (by decide) ?_
          obtain rfl := Option.some.inj hM
          refine W.widen (k := cells + 1) (n := slots + 6) (by omega) (by omega) ?_
          exact hN ls H locs (lv_sub hl [3, 4, 5, 6, 0] rfl) hP hS
        · replace hM := gi_t hc543 hM
          refine lv_aload_n hx hb d_law_546 rfl (lv_at hl 5 rfl) ?_
          refine lv_iconst (v := (0 : Int32)) hx hb d_law_547 (by decide) ?_
          obtain ⟨hi548, hM⟩ := gc_some hM
          refine g_lald C hP rfl hi548 d_law_548 ?_
          refine lv_iload hx hb d_law_549 (lv_at hl 0 rfl) ?_
          refine lv_i2l (v := q525.1.toInt64) hx hb d_law_551 rfl ?_
          refine W.lcmp hx hb d_law_552 ?_
          refine lv_if_eq (tgt := 558) hx hb d_law_553 (by decide) (fun hc553 => ?_) (fun hc553 => ?_)
          · replace hM := gi_t hc553 hM
            refine lv_goto (tgt := 975) hx hb d_law_558 (by decide) ?_
            refine lv_iinc (k := 6) (v := x4 + (6 : Int32)) (lv' := [(4, .int (x4 + (6 : Int32))), (6, .int q525.1), (5, .int q493.1), (0, .ref b), (1, .ref (ρ 0)), (2, .ref (ρ 42)), (3, .ref (ρ 66))]) hx hb d_law_975 hl rfl (congrArg (fun z => x4 + z) (by decide)) (by decide) rfl (fun ls hl => ?_)
            refine lv_goto (tgt := 23) hx hb d_law_978 (by decide) ?_
            obtain rfl := Option.some.inj hM
            refine W.widen (k := cells + 1) (n := slots + 6) (by omega) (by omega) ?_
            exact hN ls H locs (lv_sub hl [3, 4, 5, 6, 0] rfl) hP hS
          · replace hM := gi_f hc553 hM
            refine lv_iconst (v := (0 : Int32)) hx hb d_law_556 (by decide) ?_
            cases hM
      · replace hM := gi_f hc536 hM
        refine lv_iconst (v := (0 : Int32)) hx hb d_law_539 (by decide) ?_
        cases hM
noncomputable def M_Law_c7 (L : Nat) (xs : Nat → Int32) (x4 : Int32) (u : gSt) : Option gSt :=
  gc (gIn (x4 + (1 : Int32)) L) <| gc (gIn (x4 + (2 : Int32)) L) <| (M_Law_isAbove (xs (gIx (x4 + (1 : Int32)))) (xs (gIx (x4 + (2 : Int32)))) u).bind fun q575 =>
  gc (gIn (x4 + (1 : Int32)) L) <| gc (gIn (x4 + (2 : Int32)) L) <| (M_Model_isAbove (xs (gIx (x4 + (1 : Int32)))) (xs (gIx (x4 + (2 : Int32)))) q575.2).bind fun q593 =>
  (M_Model_thrown q593.2).bind fun q599 =>
  if q599.1 = q575.1 then
    (if q575.1 = (0 : Int32) then
      (gc (gIn (0 : Int32) (gLen 66)) <| if q593.1 = (0 : Int32) then
        (if (lg_cmp (q599.2.2.2.2 66 (gIx (0 : Int32))) (0 : Int64)) = (0 : Int32) then
          (some q599.2)
        else
          (none))
      else
        (if (lg_cmp (q599.2.2.2.2 66 (gIx (0 : Int32))) (1 : Int64)) = (0 : Int32) then
          (some q599.2)
        else
          (none)))
    else
      (some q599.2))
  else
    (none)
set_option maxHeartbeats 4000000 in
set_option maxRecDepth 100000 in
theorem t_Law_c7 (C : gX "TermDeskLaw" code 7 ret 12 428 R cells slots cy D ρ A p s m args meth c) (X2 : gX2 A s) (hfl : l.stackTraces = false) (hc1 : cells + 1 ≤ R.cells) (hc2 : slots + 6 ≤ R.slots) {b L : Nat} {xs : Nat → Int32} (hX : va_X b L xs s s.heap) (hbl : b < s.heap.size) (hbA : ¬ A b) {x4 : Int32} {u z : gSt} (hM : M_Law_c7 L xs x4 u = some z) (hN : ∀ (ls : Array Slot) (H : Heap) (locs : List Loc), lv_has ls 7 [(0, .ref b), (1, .ref (ρ 0)), (2, .ref (ρ 42)), (3, .ref (ρ 66)), (4, .int (x4 + (6 : Int32)))] → va_P D gCl (gW cy ρ z) H → va_S A s.heap H locs → W p l e R s m args below meth c H locs (cells + 1) (slots + 6) Q (F0 m 23 ls [])) (ls : Array Slot) (H : Heap) (locs : List Loc) (hl : lv_has ls 7 [(0, .ref b), (1, .ref (ρ 0)), (2, .ref (ρ 42)), (3, .ref (ρ 66)), (4, .int x4)]) (hP : va_P D gCl (gW cy ρ u) H) (hS : va_S A s.heap H locs) : W p l e R s m args below meth c H locs cells slots Q (F0 m 561 ls []) := by
  have hx := C.1
  have hb := C.2.1
  unfold M_Law_c7 at hM
  refine lv_aload_n hx hb d_law_561 rfl (lv_at hl 1 rfl) ?_
  refine lv_aload_n hx hb d_law_562 rfl (lv_at hl 0 rfl) ?_
  refine lv_iload hx hb d_law_563 (lv_at hl 4 rfl) ?_
  refine lv_iconst (v := (1 : Int32)) hx hb d_law_565 (by decide) ?_
  refine lv_iadd hx hb d_law_566 ?_
  obtain ⟨hi567, hM⟩ := gc_some hM
  refine va_sld hx hb hX hbl hbA hS (gIn_in hi567) d_law_567 ?_
  refine lv_aload_n hx hb d_law_568 rfl (lv_at hl 0 rfl) ?_
  refine lv_iload hx hb d_law_569 (lv_at hl 4 rfl) ?_
  refine lv_iconst (v := (2 : Int32)) hx hb d_law_571 (by decide) ?_
  refine lv_iadd hx hb d_law_572 ?_
  obtain ⟨hi573, hM⟩ := gc_some hM
  refine va_sld hx hb hX hbl hbA hS (gIn_in hi573) d_law_573 ?_
  refine lv_aload_n hx hb d_law_574 rfl (lv_at hl 3 rfl) ?_
  obtain ⟨q575, hq575, hM⟩ := gb_some hM
  refine g_callW (k := 4) (As := [.ref (ρ 0), .int (xs (gIx (x4 + (1 : Int32)))), .int (xs (gIx (x4 + (2 : Int32)))), .ref (ρ 66)]) C X2 hP hS (c_Law_isAbove hfl C.2.2.2.2.2.2.2.2.1 hq575) (gWs_at 839 (by decide +kernel) (by decide +kernel)) (gWs_at 838 (by decide +kernel) (by decide +kernel)) (gWs_at 116 (by decide +kernel) (by decide +kernel)) (gWs_at 837 (by decide +kernel) (by decide +kernel)) ⟨by decide +kernel, by decide +kernel, by decide +kernel⟩ rfl (by decide) (by decide) hc1 hc2 hl.1 rfl (Nat.le_of_ble_eq_true rfl) d_law_575 (fun H locs hP hS => ?_)
  replace C := gX_more C hc1 hc2
  refine lv_istore (lv' := [(5, .int q575.1), (0, .ref b), (1, .ref (ρ 0)), (2, .ref (ρ 42)), (3, .ref (ρ 66)), (4, .int x4)]) hx hb d_law_578 hl (by decide) rfl (fun ls hl => ?_)
  refine lv_aload_n hx hb d_law_580 rfl (lv_at hl 3 rfl) ?_
  refine lv_aload_n hx hb d_law_581 rfl (lv_at hl 1 rfl) ?_
  refine lv_iload hx hb d_law_582 (lv_at hl 5 rfl) ?_
  refine lv_iconst (v := (1 : Int32)) hx hb d_law_584 (by decide) ?_
  refine lv_iadd hx hb d_law_585 ?_
  obtain ⟨hi586, hM⟩ := gc_some hM
  refine va_sld hx hb hX hbl hbA hS (gIn_in hi586) d_law_586 ?_
  refine lv_aload_n hx hb d_law_587 rfl (lv_at hl 1 rfl) ?_
  refine lv_iload hx hb d_law_588 (lv_at hl 5 rfl) ?_
  refine lv_iconst (v := (2 : Int32)) hx hb d_law_590 (by decide) ?_
  refine lv_iadd hx hb d_law_591 ?_
  obtain ⟨hi592, hM⟩ := gc_some hM
  refine va_sld hx hb hX hbl hbA hS (gIn_in hi592) d_law_592 ?_
  obtain ⟨q593, hq593, hM⟩ := gb_some hM
  refine g_backI (g_runV (As := [.int (xs (gIx (x4 + (1 : Int32)))), .int (xs (gIx (x4 + (2 : Int32))))]) C hP (c_Model_isAbove C.2.2.2.2.2.2.2.2.1 hq593) gi_Model_isAbove gm_Law_92 rfl rfl (by decide) (by decide) hl.1 rfl (Nat.le_of_ble_eq_true rfl) d_law_593) hS (fun H locs hP hS => ?_)
  refine lv_istore (lv' := [(6, .int q593.1), (5, .int q575.1), (0, .ref b), (1, .ref (ρ 0)), (2, .ref (ρ 42)), (3, .ref (ρ 66)), (4, .int x4)]) hx hb d_law_596 hl (by decide) rfl (fun ls hl => ?_)
  refine lv_aload_n hx hb d_law_598 rfl (lv_at hl 4 rfl) ?_
  obtain ⟨q599, hq599, hM⟩ := gb_some hM
  refine g_backI (g_runV (As := []) C hP (c_Model_thrown C.2.2.2.2.2.2.2.2.1 hq599) gi_Model_thrown gm_Law_64 rfl rfl (by decide) (by decide) hl.1 rfl (Nat.le_of_ble_eq_true rfl) d_law_599) hS (fun H locs hP hS => ?_)
  refine lv_iload hx hb d_law_602 (lv_at hl 1 rfl) ?_
  refine lv_icmp_eq (tgt := 609) hx hb d_law_604 (by decide) (fun hc604 => ?_) (fun hc604 => ?_)
  · replace hM := gi_t hc604 hM
    refine lv_iload hx hb d_law_609 (lv_at hl 1 rfl) ?_
    refine lv_if_ne (tgt := 633) hx hb d_law_611 (by decide) (fun hc611 => ?_) (fun hc611 => ?_)
    · replace hM := gi_f hc611 hM
      refine lv_goto (tgt := 975) hx hb d_law_633 (by decide) ?_
      refine lv_iinc (k := 6) (v := x4 + (6 : Int32)) (lv' := [(4, .int (x4 + (6 : Int32))), (6, .int q593.1), (5, .int q575.1), (0, .ref b), (1, .ref (ρ 0)), (2, .ref (ρ 42)), (3, .ref (ρ 66))]) hx hb d_law_975 hl rfl (congrArg (fun z => x4 + z) (by decide)) (by decide) rfl (fun ls hl => ?_)
      refine lv_goto (tgt := 23) hx hb d_law_978 (by decide) ?_
      obtain rfl := Option.some.inj hM
      refine W.widen (k := cells + 1) (n := slots + 6) (by omega) (by omega) ?_
      exact hN ls H locs (lv_sub hl [3, 4, 5, 6, 0] rfl) hP hS
    · replace hM := gi_t hc611 hM
      refine lv_aload_n hx hb d_law_614 rfl (lv_at hl 5 rfl) ?_
      refine lv_iconst (v := (0 : Int32)) hx hb d_law_615 (by decide) ?_
      obtain ⟨hi616, hM⟩ := gc_some hM
      refine g_lald C hP rfl hi616 d_law_616 ?_
      refine lv_iload hx hb d_law_617 (lv_at hl 0 rfl) ?_
      refine lv_if_eq (tgt := 626) hx hb d_law_619 (by decide) (fun hc619 => ?_) (fun hc619 => ?_)
      · replace hM := gi_t hc619 hM
        refine lv_lconst (v := 0) hx hb d_law_626 (by decide) ?_
        refine W.lcmp hx hb d_law_627 ?_
        refine lv_if_eq (tgt := 633) hx hb d_law_628 (by decide) (fun hc628 => ?_) (fun hc628 => ?_)
        · replace hM := gi_t hc628 hM
          refine lv_goto (tgt := 975) hx hb d_law_633 (by decide) ?_
          refine lv_iinc (k := 6) (v := x4 + (6 : Int32)) (lv' := [(4, .int (x4 + (6 : Int32))), (6, .int q593.1), (5, .int q575.1), (0, .ref b), (1, .ref (ρ 0)), (2, .ref (ρ 42)), (3, .ref (ρ 66))]) hx hb d_law_975 hl rfl (congrArg (fun z => x4 + z) (by decide)) (by decide) rfl (fun ls hl => ?_)
          refine lv_goto (tgt := 23) hx hb d_law_978 (by decide) ?_
          obtain rfl := Option.some.inj hM
          refine W.widen (k := cells + 1) (n := slots + 6) (by omega) (by omega) ?_
          exact hN ls H locs (lv_sub hl [3, 4, 5, 6, 0] rfl) hP hS
        · replace hM := gi_f hc628 hM
          refine lv_iconst (v := (0 : Int32)) hx hb d_law_631 (by decide) ?_
          cases hM
      · replace hM := gi_f hc619 hM
        refine lv_lconst (v := 1) hx hb d_law_622 (by decide) ?_
        refine lv_goto (tgt := 627) hx hb d_law_623 (by decide) ?_
        refine W.lcmp hx hb d_law_627 ?_
        refine lv_if_eq (tgt := 633) hx hb d_law_628 (by decide) (fun hc628 => ?_) (fun hc628 => ?_)
        · replace hM := gi_t hc628 hM
          refine lv_goto (tgt := 975) hx hb d_law_633 (by decide) ?_
          refine lv_iinc (k := 6) (v := x4 + (6 : Int32)) (lv' := [(4, .int (x4 + (6 : Int32))), (6, .int q593.1), (5, .int q575.1), (0, .ref b), (1, .ref (ρ 0)), (2, .ref (ρ 42)), (3, .ref (ρ 66))]) hx hb d_law_975 hl rfl (congrArg (fun z => x4 + z) (by decide)) (by decide) rfl (fun ls hl => ?_)
          refine lv_goto (tgt := 23) hx hb d_law_978 (by decide) ?_
          obtain rfl := Option.some.inj hM
          refine W.widen (k := cells + 1) (n := slots + 6) (by omega) (by omega) ?_
          exact hN ls H locs (lv_sub hl [3, 4, 5, 6, 0] rfl) hP hS
        · replace hM := gi_f hc628 hM
          refine lv_iconst (v := (0 : Int32)) hx hb d_law_631 (by decide) ?_
          cases hM
  · replace hM := gi_f hc604 hM
    refine lv_iconst (v := (0 : Int32)) hx hb d_law_607 (by decide) ?_
    cases hM
noncomputable def M_Law_c8 (L : Nat) (xs : Nat → Int32) (x4 : Int32) (u : gSt) : Option gSt :=
  gc (gIn (x4 + (1 : Int32)) L) <| gc (gIn (x4 + (2 : Int32)) L) <| (M_Law_isAt (xs (gIx (x4 + (1 : Int32)))) (xs (gIx (x4 + (2 : Int32)))) u).bind fun q650 =>
  gc (gIn (x4 + (1 : Int32)) L) <| gc (gIn (x4 + (2 : Int32)) L) <| (M_Model_isAt (xs (gIx (x4 + (1 : Int32)))) (xs (gIx (x4 + (2 : Int32)))) q650.2).bind fun q668 =>
  (M_Model_thrown q668.2).bind fun q674 =>
  if q674.1 = q650.1 then
    (if q650.1 = (0 : Int32) then
      (gc (gIn (0 : Int32) (gLen 66)) <| if q668.1 = (0 : Int32) then
        (if (lg_cmp (q674.2.2.2.2 66 (gIx (0 : Int32))) (0 : Int64)) = (0 : Int32) then
          (some q674.2)
        else
          (none))
      else
        (if (lg_cmp (q674.2.2.2.2 66 (gIx (0 : Int32))) (1 : Int64)) = (0 : Int32) then
          (some q674.2)
        else
          (none)))
    else
      (some q674.2))
  else
    (none)
set_option maxHeartbeats 4000000 in
set_option maxRecDepth 100000 in
theorem t_Law_c8 (C : gX "TermDeskLaw" code 7 ret 12 428 R cells slots cy D ρ A p s m args meth c) (X2 : gX2 A s) (hfl : l.stackTraces = false) (hc1 : cells + 1 ≤ R.cells) (hc2 : slots + 6 ≤ R.slots) {b L : Nat} {xs : Nat → Int32} (hX : va_X b L xs s s.heap) (hbl : b < s.heap.size) (hbA : ¬ A b) {x4 : Int32} {u z : gSt} (hM : M_Law_c8 L xs x4 u = some z) (hN : ∀ (ls : Array Slot) (H : Heap) (locs : List Loc), lv_has ls 7 [(0, .ref b), (1, .ref (ρ 0)), (2, .ref (ρ 42)), (3, .ref (ρ 66)), (4, .int (x4 + (6 : Int32)))] → va_P D gCl (gW cy ρ z) H → va_S A s.heap H locs → W p l e R s m args below meth c H locs (cells + 1) (slots + 6) Q (F0 m 23 ls [])) (ls : Array Slot) (H : Heap) (locs : List Loc) (hl : lv_has ls 7 [(0, .ref b), (1, .ref (ρ 0)), (2, .ref (ρ 42)), (3, .ref (ρ 66)), (4, .int x4)]) (hP : va_P D gCl (gW cy ρ u) H) (hS : va_S A s.heap H locs) : W p l e R s m args below meth c H locs cells slots Q (F0 m 636 ls []) := by
  have hx := C.1
  have hb := C.2.1
  unfold M_Law_c8 at hM
  refine lv_aload_n hx hb d_law_636 rfl (lv_at hl 1 rfl) ?_
  refine lv_aload_n hx hb d_law_637 rfl (lv_at hl 0 rfl) ?_
  refine lv_iload hx hb d_law_638 (lv_at hl 4 rfl) ?_
  refine lv_iconst (v := (1 : Int32)) hx hb d_law_640 (by decide) ?_
  refine lv_iadd hx hb d_law_641 ?_
  obtain ⟨hi642, hM⟩ := gc_some hM
  refine va_sld hx hb hX hbl hbA hS (gIn_in hi642) d_law_642 ?_
  refine lv_aload_n hx hb d_law_643 rfl (lv_at hl 0 rfl) ?_
  refine lv_iload hx hb d_law_644 (lv_at hl 4 rfl) ?_
  refine lv_iconst (v := (2 : Int32)) hx hb d_law_646 (by decide) ?_
  refine lv_iadd hx hb d_law_647 ?_
  obtain ⟨hi648, hM⟩ := gc_some hM
  refine va_sld hx hb hX hbl hbA hS (gIn_in hi648) d_law_648 ?_
  refine lv_aload_n hx hb d_law_649 rfl (lv_at hl 3 rfl) ?_
  obtain ⟨q650, hq650, hM⟩ := gb_some hM
  refine g_callW (k := 4) (As := [.ref (ρ 0), .int (xs (gIx (x4 + (1 : Int32)))), .int (xs (gIx (x4 + (2 : Int32)))), .ref (ρ 66)]) C X2 hP hS (c_Law_isAt hfl C.2.2.2.2.2.2.2.2.1 hq650) (gWs_at 847 (by decide +kernel) (by decide +kernel)) (gWs_at 846 (by decide +kernel) (by decide +kernel)) (gWs_at 116 (by decide +kernel) (by decide +kernel)) (gWs_at 845 (by decide +kernel) (by decide +kernel)) ⟨by decide +kernel, by decide +kernel, by decide +kernel⟩ rfl (by decide) (by decide) hc1 hc2 hl.1 rfl (Nat.le_of_ble_eq_true rfl) d_law_650 (fun H locs hP hS => ?_)
  replace C := gX_more C hc1 hc2
  refine lv_istore (lv' := [(5, .int q650.1), (0, .ref b), (1, .ref (ρ 0)), (2, .ref (ρ 42)), (3, .ref (ρ 66)), (4, .int x4)]) hx hb d_law_653 hl (by decide) rfl (fun ls hl => ?_)
  refine lv_aload_n hx hb d_law_655 rfl (lv_at hl 3 rfl) ?_
  refine lv_aload_n hx hb d_law_656 rfl (lv_at hl 1 rfl) ?_
  refine lv_iload hx hb d_law_657 (lv_at hl 5 rfl) ?_
  refine lv_iconst (v := (1 : Int32)) hx hb d_law_659 (by decide) ?_
  refine lv_iadd hx hb d_law_660 ?_
  obtain ⟨hi661, hM⟩ := gc_some hM
  refine va_sld hx hb hX hbl hbA hS (gIn_in hi661) d_law_661 ?_
  refine lv_aload_n hx hb d_law_662 rfl (lv_at hl 1 rfl) ?_
  refine lv_iload hx hb d_law_663 (lv_at hl 5 rfl) ?_
  refine lv_iconst (v := (2 : Int32)) hx hb d_law_665 (by decide) ?_
  refine lv_iadd hx hb d_law_666 ?_
  obtain ⟨hi667, hM⟩ := gc_some hM
  refine va_sld hx hb hX hbl hbA hS (gIn_in hi667) d_law_667 ?_
  obtain ⟨q668, hq668, hM⟩ := gb_some hM
  refine g_backI (g_runV (As := [.int (xs (gIx (x4 + (1 : Int32)))), .int (xs (gIx (x4 + (2 : Int32))))]) C hP (c_Model_isAt C.2.2.2.2.2.2.2.2.1 hq668) gi_Model_isAt gm_Law_95 rfl rfl (by decide) (by decide) hl.1 rfl (Nat.le_of_ble_eq_true rfl) d_law_668) hS (fun H locs hP hS => ?_)
  refine lv_istore (lv' := [(6, .int q668.1), (5, .int q650.1), (0, .ref b), (1, .ref (ρ 0)), (2, .ref (ρ 42)), (3, .ref (ρ 66)), (4, .int x4)]) hx hb d_law_671 hl (by decide) rfl (fun ls hl => ?_)
  refine lv_aload_n hx hb d_law_673 rfl (lv_at hl 4 rfl) ?_
  obtain ⟨q674, hq674, hM⟩ := gb_some hM
  refine g_backI (g_runV (As := []) C hP (c_Model_thrown C.2.2.2.2.2.2.2.2.1 hq674) gi_Model_thrown gm_Law_64 rfl rfl (by decide) (by decide) hl.1 rfl (Nat.le_of_ble_eq_true rfl) d_law_674) hS (fun H locs hP hS => ?_)
  refine lv_iload hx hb d_law_677 (lv_at hl 1 rfl) ?_
  refine lv_icmp_eq (tgt := 684) hx hb d_law_679 (by decide) (fun hc679 => ?_) (fun hc679 => ?_)
  · replace hM := gi_t hc679 hM
    refine lv_iload hx hb d_law_684 (lv_at hl 1 rfl) ?_
    refine lv_if_ne (tgt := 708) hx hb d_law_686 (by decide) (fun hc686 => ?_) (fun hc686 => ?_)
    · replace hM := gi_f hc686 hM
      refine lv_goto (tgt := 975) hx hb d_law_708 (by decide) ?_
      refine lv_iinc (k := 6) (v := x4 + (6 : Int32)) (lv' := [(4, .int (x4 + (6 : Int32))), (6, .int q668.1), (5, .int q650.1), (0, .ref b), (1, .ref (ρ 0)), (2, .ref (ρ 42)), (3, .ref (ρ 66))]) hx hb d_law_975 hl rfl (congrArg (fun z => x4 + z) (by decide)) (by decide) rfl (fun ls hl => ?_)
      refine lv_goto (tgt := 23) hx hb d_law_978 (by decide) ?_
      obtain rfl := Option.some.inj hM
      refine W.widen (k := cells + 1) (n := slots + 6) (by omega) (by omega) ?_
      exact hN ls H locs (lv_sub hl [3, 4, 5, 6, 0] rfl) hP hS
    · replace hM := gi_t hc686 hM
      refine lv_aload_n hx hb d_law_689 rfl (lv_at hl 5 rfl) ?_
      refine lv_iconst (v := (0 : Int32)) hx hb d_law_690 (by decide) ?_
      obtain ⟨hi691, hM⟩ := gc_some hM
      refine g_lald C hP rfl hi691 d_law_691 ?_
      refine lv_iload hx hb d_law_692 (lv_at hl 0 rfl) ?_
      refine lv_if_eq (tgt := 701) hx hb d_law_694 (by decide) (fun hc694 => ?_) (fun hc694 => ?_)
      · replace hM := gi_t hc694 hM
        refine lv_lconst (v := 0) hx hb d_law_701 (by decide) ?_
        refine W.lcmp hx hb d_law_702 ?_
        refine lv_if_eq (tgt := 708) hx hb d_law_703 (by decide) (fun hc703 => ?_) (fun hc703 => ?_)
        · replace hM := gi_t hc703 hM
          refine lv_goto (tgt := 975) hx hb d_law_708 (by decide) ?_
          refine lv_iinc (k := 6) (v := x4 + (6 : Int32)) (lv' := [(4, .int (x4 + (6 : Int32))), (6, .int q668.1), (5, .int q650.1), (0, .ref b), (1, .ref (ρ 0)), (2, .ref (ρ 42)), (3, .ref (ρ 66))]) hx hb d_law_975 hl rfl (congrArg (fun z => x4 + z) (by decide)) (by decide) rfl (fun ls hl => ?_)
          refine lv_goto (tgt := 23) hx hb d_law_978 (by decide) ?_
          obtain rfl := Option.some.inj hM
          refine W.widen (k := cells + 1) (n := slots + 6) (by omega) (by omega) ?_
          exact hN ls H locs (lv_sub hl [3, 4, 5, 6, 0] rfl) hP hS
        · replace hM := gi_f hc703 hM
          refine lv_iconst (v := (0 : Int32)) hx hb d_law_706 (by decide) ?_
          cases hM
      · replace hM := gi_f hc694 hM
        refine lv_lconst (v := 1) hx hb d_law_697 (by decide) ?_
        refine lv_goto (tgt := 702) hx hb d_law_698 (by decide) ?_
        refine W.lcmp hx hb d_law_702 ?_
        refine lv_if_eq (tgt := 708) hx hb d_law_703 (by decide) (fun hc703 => ?_) (fun hc703 => ?_)
        · replace hM := gi_t hc703 hM
          refine lv_goto (tgt := 975) hx hb d_law_708 (by decide) ?_
          refine lv_iinc (k := 6) (v := x4 + (6 : Int32)) (lv' := [(4, .int (x4 + (6 : Int32))), (6, .int q668.1), (5, .int q650.1), (0, .ref b), (1, .ref (ρ 0)), (2, .ref (ρ 42)), (3, .ref (ρ 66))]) hx hb d_law_975 hl rfl (congrArg (fun z => x4 + z) (by decide)) (by decide) rfl (fun ls hl => ?_)
          refine lv_goto (tgt := 23) hx hb d_law_978 (by decide) ?_
          obtain rfl := Option.some.inj hM
          refine W.widen (k := cells + 1) (n := slots + 6) (by omega) (by omega) ?_
          exact hN ls H locs (lv_sub hl [3, 4, 5, 6, 0] rfl) hP hS
        · replace hM := gi_f hc703 hM
          refine lv_iconst (v := (0 : Int32)) hx hb d_law_706 (by decide) ?_
          cases hM
  · replace hM := gi_f hc679 hM
    refine lv_iconst (v := (0 : Int32)) hx hb d_law_682 (by decide) ?_
    cases hM
noncomputable def M_Law_c9 (L : Nat) (xs : Nat → Int32) (x4 : Int32) (u : gSt) : Option gSt :=
  gc (gIn (x4 + (1 : Int32)) L) <| gc (gIn (x4 + (2 : Int32)) L) <| gc (gIn (x4 + (3 : Int32)) L) <| (M_Law_report (xs (gIx (x4 + (1 : Int32)))) (xs (gIx (x4 + (2 : Int32)))) (xs (gIx (x4 + (3 : Int32)))) u).bind fun q731 =>
  gc (gIn (x4 + (1 : Int32)) L) <| gc (gIn (x4 + (2 : Int32)) L) <| gc (gIn (x4 + (3 : Int32)) L) <| (M_Model_report (xs (gIx (x4 + (1 : Int32)))) (xs (gIx (x4 + (2 : Int32)))) (xs (gIx (x4 + (3 : Int32)))) q731.2).bind fun q755 =>
  (M_Model_thrown q755.2).bind fun q761 =>
  if q761.1 = q731.1 then
    (if q731.1 = (0 : Int32) then
      (gc (gIn (0 : Int32) (gLen 66)) <| if (lg_cmp (q761.2.2.2.2 66 (gIx (0 : Int32))) q755.1.toInt64) = (0 : Int32) then
        (some q761.2)
      else
        (none))
    else
      (some q761.2))
  else
    (none)
set_option maxHeartbeats 4000000 in
set_option maxRecDepth 100000 in
theorem t_Law_c9 (C : gX "TermDeskLaw" code 7 ret 12 428 R cells slots cy D ρ A p s m args meth c) (X2 : gX2 A s) (hfl : l.stackTraces = false) (hc1 : cells + 1 ≤ R.cells) (hc2 : slots + 6 ≤ R.slots) {b L : Nat} {xs : Nat → Int32} (hX : va_X b L xs s s.heap) (hbl : b < s.heap.size) (hbA : ¬ A b) {x4 : Int32} {u z : gSt} (hM : M_Law_c9 L xs x4 u = some z) (hN : ∀ (ls : Array Slot) (H : Heap) (locs : List Loc), lv_has ls 7 [(0, .ref b), (1, .ref (ρ 0)), (2, .ref (ρ 42)), (3, .ref (ρ 66)), (4, .int (x4 + (6 : Int32)))] → va_P D gCl (gW cy ρ z) H → va_S A s.heap H locs → W p l e R s m args below meth c H locs (cells + 1) (slots + 6) Q (F0 m 23 ls [])) (ls : Array Slot) (H : Heap) (locs : List Loc) (hl : lv_has ls 7 [(0, .ref b), (1, .ref (ρ 0)), (2, .ref (ρ 42)), (3, .ref (ρ 66)), (4, .int x4)]) (hP : va_P D gCl (gW cy ρ u) H) (hS : va_S A s.heap H locs) : W p l e R s m args below meth c H locs cells slots Q (F0 m 711 ls []) := by
  have hx := C.1
  have hb := C.2.1
  unfold M_Law_c9 at hM
  refine lv_aload_n hx hb d_law_711 rfl (lv_at hl 1 rfl) ?_
  refine lv_aload_n hx hb d_law_712 rfl (lv_at hl 0 rfl) ?_
  refine lv_iload hx hb d_law_713 (lv_at hl 4 rfl) ?_
  refine lv_iconst (v := (1 : Int32)) hx hb d_law_715 (by decide) ?_
  refine lv_iadd hx hb d_law_716 ?_
  obtain ⟨hi717, hM⟩ := gc_some hM
  refine va_sld hx hb hX hbl hbA hS (gIn_in hi717) d_law_717 ?_
  refine lv_aload_n hx hb d_law_718 rfl (lv_at hl 0 rfl) ?_
  refine lv_iload hx hb d_law_719 (lv_at hl 4 rfl) ?_
  refine lv_iconst (v := (2 : Int32)) hx hb d_law_721 (by decide) ?_
  refine lv_iadd hx hb d_law_722 ?_
  obtain ⟨hi723, hM⟩ := gc_some hM
  refine va_sld hx hb hX hbl hbA hS (gIn_in hi723) d_law_723 ?_
  refine lv_aload_n hx hb d_law_724 rfl (lv_at hl 0 rfl) ?_
  refine lv_iload hx hb d_law_725 (lv_at hl 4 rfl) ?_
  refine lv_iconst (v := (3 : Int32)) hx hb d_law_727 (by decide) ?_
  refine lv_iadd hx hb d_law_728 ?_
  obtain ⟨hi729, hM⟩ := gc_some hM
  refine va_sld hx hb hX hbl hbA hS (gIn_in hi729) d_law_729 ?_
  refine lv_aload_n hx hb d_law_730 rfl (lv_at hl 3 rfl) ?_
  obtain ⟨q731, hq731, hM⟩ := gb_some hM
  refine g_callW (k := 5) (As := [.ref (ρ 0), .int (xs (gIx (x4 + (1 : Int32)))), .int (xs (gIx (x4 + (2 : Int32)))), .int (xs (gIx (x4 + (3 : Int32)))), .ref (ρ 66)]) C X2 hP hS (c_Law_report hfl C.2.2.2.2.2.2.2.2.1 hq731) (gWs_at 855 (by decide +kernel) (by decide +kernel)) (gWs_at 854 (by decide +kernel) (by decide +kernel)) (gWs_at 116 (by decide +kernel) (by decide +kernel)) (gWs_at 853 (by decide +kernel) (by decide +kernel)) ⟨by decide +kernel, by decide +kernel, by decide +kernel⟩ rfl (by decide) (by decide) hc1 hc2 hl.1 rfl (Nat.le_of_ble_eq_true rfl) d_law_731 (fun H locs hP hS => ?_)
  replace C := gX_more C hc1 hc2
  refine lv_istore (lv' := [(5, .int q731.1), (0, .ref b), (1, .ref (ρ 0)), (2, .ref (ρ 42)), (3, .ref (ρ 66)), (4, .int x4)]) hx hb d_law_734 hl (by decide) rfl (fun ls hl => ?_)
  refine lv_aload_n hx hb d_law_736 rfl (lv_at hl 3 rfl) ?_
  refine lv_aload_n hx hb d_law_737 rfl (lv_at hl 1 rfl) ?_
  refine lv_iload hx hb d_law_738 (lv_at hl 5 rfl) ?_
  refine lv_iconst (v := (1 : Int32)) hx hb d_law_740 (by decide) ?_
  refine lv_iadd hx hb d_law_741 ?_
  obtain ⟨hi742, hM⟩ := gc_some hM
  refine va_sld hx hb hX hbl hbA hS (gIn_in hi742) d_law_742 ?_
  refine lv_aload_n hx hb d_law_743 rfl (lv_at hl 1 rfl) ?_
  refine lv_iload hx hb d_law_744 (lv_at hl 5 rfl) ?_
  refine lv_iconst (v := (2 : Int32)) hx hb d_law_746 (by decide) ?_
  refine lv_iadd hx hb d_law_747 ?_
  obtain ⟨hi748, hM⟩ := gc_some hM
  refine va_sld hx hb hX hbl hbA hS (gIn_in hi748) d_law_748 ?_
  refine lv_aload_n hx hb d_law_749 rfl (lv_at hl 1 rfl) ?_
  refine lv_iload hx hb d_law_750 (lv_at hl 5 rfl) ?_
  refine lv_iconst (v := (3 : Int32)) hx hb d_law_752 (by decide) ?_
  refine lv_iadd hx hb d_law_753 ?_
  obtain ⟨hi754, hM⟩ := gc_some hM
  refine va_sld hx hb hX hbl hbA hS (gIn_in hi754) d_law_754 ?_
  obtain ⟨q755, hq755, hM⟩ := gb_some hM
  refine g_backI (g_runV (As := [.int (xs (gIx (x4 + (1 : Int32)))), .int (xs (gIx (x4 + (2 : Int32)))), .int (xs (gIx (x4 + (3 : Int32))))]) C hP (c_Model_report C.2.2.2.2.2.2.2.2.1 hq755) gi_Model_report gm_Law_99 rfl rfl (by decide) (by decide) hl.1 rfl (Nat.le_of_ble_eq_true rfl) d_law_755) hS (fun H locs hP hS => ?_)
  refine lv_istore (lv' := [(6, .int q755.1), (5, .int q731.1), (0, .ref b), (1, .ref (ρ 0)), (2, .ref (ρ 42)), (3, .ref (ρ 66)), (4, .int x4)]) hx hb d_law_758 hl (by decide) rfl (fun ls hl => ?_)
  refine lv_aload_n hx hb d_law_760 rfl (lv_at hl 4 rfl) ?_
  obtain ⟨q761, hq761, hM⟩ := gb_some hM
  refine g_backI (g_runV (As := []) C hP (c_Model_thrown C.2.2.2.2.2.2.2.2.1 hq761) gi_Model_thrown gm_Law_64 rfl rfl (by decide) (by decide) hl.1 rfl (Nat.le_of_ble_eq_true rfl) d_law_761) hS (fun H locs hP hS => ?_)
  refine lv_iload hx hb d_law_764 (lv_at hl 1 rfl) ?_
  refine lv_icmp_eq (tgt := 771) hx hb d_law_766 (by decide) (fun hc766 => ?_) (fun hc766 => ?_)
  · replace hM := gi_t hc766 hM
    refine lv_iload hx hb d_law_771 (lv_at hl 1 rfl) ?_
    refine lv_if_ne (tgt := 788) hx hb d_law_773 (by decide) (fun hc773 => ?_) (fun hc773 => ?_)
    · replace hM := gi_f hc773 hM
      refine lv_goto (tgt := 975) hx hb d_law_788 (by decide) ?_
      refine lv_iinc (k := 6) (v := x4 + (6 : Int32)) (lv' := [(4, .int (x4 + (6 : Int32))), (6, .int q755.1), (5, .int q731.1), (0, .ref b), (1, .ref (ρ 0)), (2, .ref (ρ 42)), (3, .ref (ρ 66))]) hx hb d_law_975 hl rfl (congrArg (fun z => x4 + z) (by decide)) (by decide) rfl (fun ls hl => ?_)
      refine lv_goto (tgt := 23) hx hb d_law_978 (by decide) ?_
      obtain rfl := Option.some.inj hM
      refine W.widen (k := cells + 1) (n := slots + 6) (by omega) (by omega) ?_
      exact hN ls H locs (lv_sub hl [3, 4, 5, 6, 0] rfl) hP hS
    · replace hM := gi_t hc773 hM
      refine lv_aload_n hx hb d_law_776 rfl (lv_at hl 5 rfl) ?_
      refine lv_iconst (v := (0 : Int32)) hx hb d_law_777 (by decide) ?_
      obtain ⟨hi778, hM⟩ := gc_some hM
      refine g_lald C hP rfl hi778 d_law_778 ?_
      refine lv_iload hx hb d_law_779 (lv_at hl 0 rfl) ?_
      refine lv_i2l (v := q755.1.toInt64) hx hb d_law_781 rfl ?_
      refine W.lcmp hx hb d_law_782 ?_
      refine lv_if_eq (tgt := 788) hx hb d_law_783 (by decide) (fun hc783 => ?_) (fun hc783 => ?_)
      · replace hM := gi_t hc783 hM
        refine lv_goto (tgt := 975) hx hb d_law_788 (by decide) ?_
        refine lv_iinc (k := 6) (v := x4 + (6 : Int32)) (lv' := [(4, .int (x4 + (6 : Int32))), (6, .int q755.1), (5, .int q731.1), (0, .ref b), (1, .ref (ρ 0)), (2, .ref (ρ 42)), (3, .ref (ρ 66))]) hx hb d_law_975 hl rfl (congrArg (fun z => x4 + z) (by decide)) (by decide) rfl (fun ls hl => ?_)
        refine lv_goto (tgt := 23) hx hb d_law_978 (by decide) ?_
        obtain rfl := Option.some.inj hM
        refine W.widen (k := cells + 1) (n := slots + 6) (by omega) (by omega) ?_
        exact hN ls H locs (lv_sub hl [3, 4, 5, 6, 0] rfl) hP hS
      · replace hM := gi_f hc783 hM
        refine lv_iconst (v := (0 : Int32)) hx hb d_law_786 (by decide) ?_
        cases hM
  · replace hM := gi_f hc766 hM
    refine lv_iconst (v := (0 : Int32)) hx hb d_law_769 (by decide) ?_
    cases hM
noncomputable def M_Law_c10 (L : Nat) (xs : Nat → Int32) (x4 : Int32) (u : gSt) : Option gSt :=
  gc (gIn (x4 + (1 : Int32)) L) <| gc (gIn (x4 + (2 : Int32)) L) <| (M_Law_row (xs (gIx (x4 + (1 : Int32)))) (xs (gIx (x4 + (2 : Int32)))) u).bind fun q805 =>
  gc (gIn (x4 + (1 : Int32)) L) <| gc (gIn (x4 + (2 : Int32)) L) <| (M_Model_row (xs (gIx (x4 + (1 : Int32)))) (xs (gIx (x4 + (2 : Int32)))) q805.2).bind fun q823 =>
  (M_Model_thrown q823.2).bind fun q829 =>
  if q829.1 = q805.1 then
    (if q805.1 = (0 : Int32) then
      (gc (gIn (0 : Int32) (gLen 66)) <| if (lg_cmp (q829.2.2.2.2 66 (gIx (0 : Int32))) q823.1.toInt64) = (0 : Int32) then
        (some q829.2)
      else
        (none))
    else
      (some q829.2))
  else
    (none)
set_option maxHeartbeats 4000000 in
set_option maxRecDepth 100000 in
theorem t_Law_c10 (C : gX "TermDeskLaw" code 7 ret 12 428 R cells slots cy D ρ A p s m args meth c) (X2 : gX2 A s) (hfl : l.stackTraces = false) (hc1 : cells + 1 ≤ R.cells) (hc2 : slots + 6 ≤ R.slots) {b L : Nat} {xs : Nat → Int32} (hX : va_X b L xs s s.heap) (hbl : b < s.heap.size) (hbA : ¬ A b) {x4 : Int32} {u z : gSt} (hM : M_Law_c10 L xs x4 u = some z) (hN : ∀ (ls : Array Slot) (H : Heap) (locs : List Loc), lv_has ls 7 [(0, .ref b), (1, .ref (ρ 0)), (2, .ref (ρ 42)), (3, .ref (ρ 66)), (4, .int (x4 + (6 : Int32)))] → va_P D gCl (gW cy ρ z) H → va_S A s.heap H locs → W p l e R s m args below meth c H locs (cells + 1) (slots + 6) Q (F0 m 23 ls [])) (ls : Array Slot) (H : Heap) (locs : List Loc) (hl : lv_has ls 7 [(0, .ref b), (1, .ref (ρ 0)), (2, .ref (ρ 42)), (3, .ref (ρ 66)), (4, .int x4)]) (hP : va_P D gCl (gW cy ρ u) H) (hS : va_S A s.heap H locs) : W p l e R s m args below meth c H locs cells slots Q (F0 m 791 ls []) := by
  have hx := C.1
  have hb := C.2.1
  unfold M_Law_c10 at hM
  refine lv_aload_n hx hb d_law_791 rfl (lv_at hl 1 rfl) ?_
  refine lv_aload_n hx hb d_law_792 rfl (lv_at hl 0 rfl) ?_
  refine lv_iload hx hb d_law_793 (lv_at hl 4 rfl) ?_
  refine lv_iconst (v := (1 : Int32)) hx hb d_law_795 (by decide) ?_
  refine lv_iadd hx hb d_law_796 ?_
  obtain ⟨hi797, hM⟩ := gc_some hM
  refine va_sld hx hb hX hbl hbA hS (gIn_in hi797) d_law_797 ?_
  refine lv_aload_n hx hb d_law_798 rfl (lv_at hl 0 rfl) ?_
  refine lv_iload hx hb d_law_799 (lv_at hl 4 rfl) ?_
  refine lv_iconst (v := (2 : Int32)) hx hb d_law_801 (by decide) ?_
  refine lv_iadd hx hb d_law_802 ?_
  obtain ⟨hi803, hM⟩ := gc_some hM
  refine va_sld hx hb hX hbl hbA hS (gIn_in hi803) d_law_803 ?_
  refine lv_aload_n hx hb d_law_804 rfl (lv_at hl 3 rfl) ?_
  obtain ⟨q805, hq805, hM⟩ := gb_some hM
  refine g_callW (k := 4) (As := [.ref (ρ 0), .int (xs (gIx (x4 + (1 : Int32)))), .int (xs (gIx (x4 + (2 : Int32)))), .ref (ρ 66)]) C X2 hP hS (c_Law_row hfl C.2.2.2.2.2.2.2.2.1 hq805) (gWs_at 953 (by decide +kernel) (by decide +kernel)) (gWs_at 952 (by decide +kernel) (by decide +kernel)) (gWs_at 116 (by decide +kernel) (by decide +kernel)) (gWs_at 951 (by decide +kernel) (by decide +kernel)) ⟨by decide +kernel, by decide +kernel, by decide +kernel⟩ rfl (by decide) (by decide) hc1 hc2 hl.1 rfl (Nat.le_of_ble_eq_true rfl) d_law_805 (fun H locs hP hS => ?_)
  replace C := gX_more C hc1 hc2
  refine lv_istore (lv' := [(5, .int q805.1), (0, .ref b), (1, .ref (ρ 0)), (2, .ref (ρ 42)), (3, .ref (ρ 66)), (4, .int x4)]) hx hb d_law_808 hl (by decide) rfl (fun ls hl => ?_)
  refine lv_aload_n hx hb d_law_810 rfl (lv_at hl 3 rfl) ?_
  refine lv_aload_n hx hb d_law_811 rfl (lv_at hl 1 rfl) ?_
  refine lv_iload hx hb d_law_812 (lv_at hl 5 rfl) ?_
  refine lv_iconst (v := (1 : Int32)) hx hb d_law_814 (by decide) ?_
  refine lv_iadd hx hb d_law_815 ?_
  obtain ⟨hi816, hM⟩ := gc_some hM
  refine va_sld hx hb hX hbl hbA hS (gIn_in hi816) d_law_816 ?_
  refine lv_aload_n hx hb d_law_817 rfl (lv_at hl 1 rfl) ?_
  refine lv_iload hx hb d_law_818 (lv_at hl 5 rfl) ?_
  refine lv_iconst (v := (2 : Int32)) hx hb d_law_820 (by decide) ?_
  refine lv_iadd hx hb d_law_821 ?_
  obtain ⟨hi822, hM⟩ := gc_some hM
  refine va_sld hx hb hX hbl hbA hS (gIn_in hi822) d_law_822 ?_
  obtain ⟨q823, hq823, hM⟩ := gb_some hM
  refine g_backI (g_runV (As := [.int (xs (gIx (x4 + (1 : Int32)))), .int (xs (gIx (x4 + (2 : Int32))))]) C hP (c_Model_row C.2.2.2.2.2.2.2.2.1 hq823) gi_Model_row gm_Law_102 rfl rfl (by decide) (by decide) hl.1 rfl (Nat.le_of_ble_eq_true rfl) d_law_823) hS (fun H locs hP hS => ?_)
  refine lv_istore (lv' := [(6, .int q823.1), (5, .int q805.1), (0, .ref b), (1, .ref (ρ 0)), (2, .ref (ρ 42)), (3, .ref (ρ 66)), (4, .int x4)]) hx hb d_law_826 hl (by decide) rfl (fun ls hl => ?_)
  refine lv_aload_n hx hb d_law_828 rfl (lv_at hl 4 rfl) ?_
  obtain ⟨q829, hq829, hM⟩ := gb_some hM
  refine g_backI (g_runV (As := []) C hP (c_Model_thrown C.2.2.2.2.2.2.2.2.1 hq829) gi_Model_thrown gm_Law_64 rfl rfl (by decide) (by decide) hl.1 rfl (Nat.le_of_ble_eq_true rfl) d_law_829) hS (fun H locs hP hS => ?_)
  refine lv_iload hx hb d_law_832 (lv_at hl 1 rfl) ?_
  refine lv_icmp_eq (tgt := 839) hx hb d_law_834 (by decide) (fun hc834 => ?_) (fun hc834 => ?_)
  · replace hM := gi_t hc834 hM
    refine lv_iload hx hb d_law_839 (lv_at hl 1 rfl) ?_
    refine lv_if_ne (tgt := 856) hx hb d_law_841 (by decide) (fun hc841 => ?_) (fun hc841 => ?_)
    · replace hM := gi_f hc841 hM
      refine lv_goto (tgt := 975) hx hb d_law_856 (by decide) ?_
      refine lv_iinc (k := 6) (v := x4 + (6 : Int32)) (lv' := [(4, .int (x4 + (6 : Int32))), (6, .int q823.1), (5, .int q805.1), (0, .ref b), (1, .ref (ρ 0)), (2, .ref (ρ 42)), (3, .ref (ρ 66))]) hx hb d_law_975 hl rfl (congrArg (fun z => x4 + z) (by decide)) (by decide) rfl (fun ls hl => ?_)
      refine lv_goto (tgt := 23) hx hb d_law_978 (by decide) ?_
      obtain rfl := Option.some.inj hM
      refine W.widen (k := cells + 1) (n := slots + 6) (by omega) (by omega) ?_
      exact hN ls H locs (lv_sub hl [3, 4, 5, 6, 0] rfl) hP hS
    · replace hM := gi_t hc841 hM
      refine lv_aload_n hx hb d_law_844 rfl (lv_at hl 5 rfl) ?_
      refine lv_iconst (v := (0 : Int32)) hx hb d_law_845 (by decide) ?_
      obtain ⟨hi846, hM⟩ := gc_some hM
      refine g_lald C hP rfl hi846 d_law_846 ?_
      refine lv_iload hx hb d_law_847 (lv_at hl 0 rfl) ?_
      refine lv_i2l (v := q823.1.toInt64) hx hb d_law_849 rfl ?_
      refine W.lcmp hx hb d_law_850 ?_
      refine lv_if_eq (tgt := 856) hx hb d_law_851 (by decide) (fun hc851 => ?_) (fun hc851 => ?_)
      · replace hM := gi_t hc851 hM
        refine lv_goto (tgt := 975) hx hb d_law_856 (by decide) ?_
        refine lv_iinc (k := 6) (v := x4 + (6 : Int32)) (lv' := [(4, .int (x4 + (6 : Int32))), (6, .int q823.1), (5, .int q805.1), (0, .ref b), (1, .ref (ρ 0)), (2, .ref (ρ 42)), (3, .ref (ρ 66))]) hx hb d_law_975 hl rfl (congrArg (fun z => x4 + z) (by decide)) (by decide) rfl (fun ls hl => ?_)
        refine lv_goto (tgt := 23) hx hb d_law_978 (by decide) ?_
        obtain rfl := Option.some.inj hM
        refine W.widen (k := cells + 1) (n := slots + 6) (by omega) (by omega) ?_
        exact hN ls H locs (lv_sub hl [3, 4, 5, 6, 0] rfl) hP hS
      · replace hM := gi_f hc851 hM
        refine lv_iconst (v := (0 : Int32)) hx hb d_law_854 (by decide) ?_
        cases hM
  · replace hM := gi_f hc834 hM
    refine lv_iconst (v := (0 : Int32)) hx hb d_law_837 (by decide) ?_
    cases hM
noncomputable def M_Law_c11 (L : Nat) (xs : Nat → Int32) (x4 : Int32) (u : gSt) : Option gSt :=
  gc (gIn (x4 + (1 : Int32)) L) <| gc (gIn (x4 + (2 : Int32)) L) <| gc (gIn (x4 + (3 : Int32)) L) <| (M_Law_print (xs (gIx (x4 + (1 : Int32)))) (xs (gIx (x4 + (2 : Int32)))) (xs (gIx (x4 + (3 : Int32)))) u).bind fun q879 =>
  gc (gIn (x4 + (1 : Int32)) L) <| gc (gIn (x4 + (2 : Int32)) L) <| gc (gIn (x4 + (3 : Int32)) L) <| (M_Model_print (xs (gIx (x4 + (1 : Int32)))) (xs (gIx (x4 + (2 : Int32)))) (xs (gIx (x4 + (3 : Int32)))) q879.2).bind fun q903 =>
  (M_Model_thrown q903.2).bind fun q909 =>
  if q909.1 = q879.1 then
    (if q879.1 = (0 : Int32) then
      (gc (gIn (0 : Int32) (gLen 66)) <| if (lg_cmp (q909.2.2.2.2 66 (gIx (0 : Int32))) q903.1.toInt64) = (0 : Int32) then
        (some q909.2)
      else
        (none))
    else
      (some q909.2))
  else
    (none)
set_option maxHeartbeats 4000000 in
set_option maxRecDepth 100000 in
theorem t_Law_c11 (C : gX "TermDeskLaw" code 7 ret 12 428 R cells slots cy D ρ A p s m args meth c) (X2 : gX2 A s) (hfl : l.stackTraces = false) (hc1 : cells + 1 ≤ R.cells) (hc2 : slots + 6 ≤ R.slots) {b L : Nat} {xs : Nat → Int32} (hX : va_X b L xs s s.heap) (hbl : b < s.heap.size) (hbA : ¬ A b) {x4 : Int32} {u z : gSt} (hM : M_Law_c11 L xs x4 u = some z) (hN : ∀ (ls : Array Slot) (H : Heap) (locs : List Loc), lv_has ls 7 [(0, .ref b), (1, .ref (ρ 0)), (2, .ref (ρ 42)), (3, .ref (ρ 66)), (4, .int (x4 + (6 : Int32)))] → va_P D gCl (gW cy ρ z) H → va_S A s.heap H locs → W p l e R s m args below meth c H locs (cells + 1) (slots + 6) Q (F0 m 23 ls [])) (ls : Array Slot) (H : Heap) (locs : List Loc) (hl : lv_has ls 7 [(0, .ref b), (1, .ref (ρ 0)), (2, .ref (ρ 42)), (3, .ref (ρ 66)), (4, .int x4)]) (hP : va_P D gCl (gW cy ρ u) H) (hS : va_S A s.heap H locs) : W p l e R s m args below meth c H locs cells slots Q (F0 m 859 ls []) := by
  have hx := C.1
  have hb := C.2.1
  unfold M_Law_c11 at hM
  refine lv_aload_n hx hb d_law_859 rfl (lv_at hl 1 rfl) ?_
  refine lv_aload_n hx hb d_law_860 rfl (lv_at hl 0 rfl) ?_
  refine lv_iload hx hb d_law_861 (lv_at hl 4 rfl) ?_
  refine lv_iconst (v := (1 : Int32)) hx hb d_law_863 (by decide) ?_
  refine lv_iadd hx hb d_law_864 ?_
  obtain ⟨hi865, hM⟩ := gc_some hM
  refine va_sld hx hb hX hbl hbA hS (gIn_in hi865) d_law_865 ?_
  refine lv_aload_n hx hb d_law_866 rfl (lv_at hl 0 rfl) ?_
  refine lv_iload hx hb d_law_867 (lv_at hl 4 rfl) ?_
  refine lv_iconst (v := (2 : Int32)) hx hb d_law_869 (by decide) ?_
  refine lv_iadd hx hb d_law_870 ?_
  obtain ⟨hi871, hM⟩ := gc_some hM
  refine va_sld hx hb hX hbl hbA hS (gIn_in hi871) d_law_871 ?_
  refine lv_aload_n hx hb d_law_872 rfl (lv_at hl 0 rfl) ?_
  refine lv_iload hx hb d_law_873 (lv_at hl 4 rfl) ?_
  refine lv_iconst (v := (3 : Int32)) hx hb d_law_875 (by decide) ?_
  refine lv_iadd hx hb d_law_876 ?_
  obtain ⟨hi877, hM⟩ := gc_some hM
  refine va_sld hx hb hX hbl hbA hS (gIn_in hi877) d_law_877 ?_
  refine lv_aload_n hx hb d_law_878 rfl (lv_at hl 3 rfl) ?_
  obtain ⟨q879, hq879, hM⟩ := gb_some hM
  refine g_callW (k := 5) (As := [.ref (ρ 0), .int (xs (gIx (x4 + (1 : Int32)))), .int (xs (gIx (x4 + (2 : Int32)))), .int (xs (gIx (x4 + (3 : Int32)))), .ref (ρ 66)]) C X2 hP hS (c_Law_print hfl C.2.2.2.2.2.2.2.2.1 hq879) (gWs_at 966 (by decide +kernel) (by decide +kernel)) (gWs_at 965 (by decide +kernel) (by decide +kernel)) (gWs_at 116 (by decide +kernel) (by decide +kernel)) (gWs_at 964 (by decide +kernel) (by decide +kernel)) ⟨by decide +kernel, by decide +kernel, by decide +kernel⟩ rfl (by decide) (by decide) hc1 hc2 hl.1 rfl (Nat.le_of_ble_eq_true rfl) d_law_879 (fun H locs hP hS => ?_)
  replace C := gX_more C hc1 hc2
  refine lv_istore (lv' := [(5, .int q879.1), (0, .ref b), (1, .ref (ρ 0)), (2, .ref (ρ 42)), (3, .ref (ρ 66)), (4, .int x4)]) hx hb d_law_882 hl (by decide) rfl (fun ls hl => ?_)
  refine lv_aload_n hx hb d_law_884 rfl (lv_at hl 3 rfl) ?_
  refine lv_aload_n hx hb d_law_885 rfl (lv_at hl 1 rfl) ?_
  refine lv_iload hx hb d_law_886 (lv_at hl 5 rfl) ?_
  refine lv_iconst (v := (1 : Int32)) hx hb d_law_888 (by decide) ?_
  refine lv_iadd hx hb d_law_889 ?_
  obtain ⟨hi890, hM⟩ := gc_some hM
  refine va_sld hx hb hX hbl hbA hS (gIn_in hi890) d_law_890 ?_
  refine lv_aload_n hx hb d_law_891 rfl (lv_at hl 1 rfl) ?_
  refine lv_iload hx hb d_law_892 (lv_at hl 5 rfl) ?_
  refine lv_iconst (v := (2 : Int32)) hx hb d_law_894 (by decide) ?_
  refine lv_iadd hx hb d_law_895 ?_
  obtain ⟨hi896, hM⟩ := gc_some hM
  refine va_sld hx hb hX hbl hbA hS (gIn_in hi896) d_law_896 ?_
  refine lv_aload_n hx hb d_law_897 rfl (lv_at hl 1 rfl) ?_
  refine lv_iload hx hb d_law_898 (lv_at hl 5 rfl) ?_
  refine lv_iconst (v := (3 : Int32)) hx hb d_law_900 (by decide) ?_
  refine lv_iadd hx hb d_law_901 ?_
  obtain ⟨hi902, hM⟩ := gc_some hM
  refine va_sld hx hb hX hbl hbA hS (gIn_in hi902) d_law_902 ?_
  obtain ⟨q903, hq903, hM⟩ := gb_some hM
  refine g_backI (g_runV (As := [.int (xs (gIx (x4 + (1 : Int32)))), .int (xs (gIx (x4 + (2 : Int32)))), .int (xs (gIx (x4 + (3 : Int32))))]) C hP (c_Model_print C.2.2.2.2.2.2.2.2.1 hq903) gi_Model_print gm_Law_105 rfl rfl (by decide) (by decide) hl.1 rfl (Nat.le_of_ble_eq_true rfl) d_law_903) hS (fun H locs hP hS => ?_)
  refine lv_istore (lv' := [(6, .int q903.1), (5, .int q879.1), (0, .ref b), (1, .ref (ρ 0)), (2, .ref (ρ 42)), (3, .ref (ρ 66)), (4, .int x4)]) hx hb d_law_906 hl (by decide) rfl (fun ls hl => ?_)
  refine lv_aload_n hx hb d_law_908 rfl (lv_at hl 4 rfl) ?_
  obtain ⟨q909, hq909, hM⟩ := gb_some hM
  refine g_backI (g_runV (As := []) C hP (c_Model_thrown C.2.2.2.2.2.2.2.2.1 hq909) gi_Model_thrown gm_Law_64 rfl rfl (by decide) (by decide) hl.1 rfl (Nat.le_of_ble_eq_true rfl) d_law_909) hS (fun H locs hP hS => ?_)
  refine lv_iload hx hb d_law_912 (lv_at hl 1 rfl) ?_
  refine lv_icmp_eq (tgt := 919) hx hb d_law_914 (by decide) (fun hc914 => ?_) (fun hc914 => ?_)
  · replace hM := gi_t hc914 hM
    refine lv_iload hx hb d_law_919 (lv_at hl 1 rfl) ?_
    refine lv_if_ne (tgt := 936) hx hb d_law_921 (by decide) (fun hc921 => ?_) (fun hc921 => ?_)
    · replace hM := gi_f hc921 hM
      refine lv_goto (tgt := 975) hx hb d_law_936 (by decide) ?_
      refine lv_iinc (k := 6) (v := x4 + (6 : Int32)) (lv' := [(4, .int (x4 + (6 : Int32))), (6, .int q903.1), (5, .int q879.1), (0, .ref b), (1, .ref (ρ 0)), (2, .ref (ρ 42)), (3, .ref (ρ 66))]) hx hb d_law_975 hl rfl (congrArg (fun z => x4 + z) (by decide)) (by decide) rfl (fun ls hl => ?_)
      refine lv_goto (tgt := 23) hx hb d_law_978 (by decide) ?_
      obtain rfl := Option.some.inj hM
      refine W.widen (k := cells + 1) (n := slots + 6) (by omega) (by omega) ?_
      exact hN ls H locs (lv_sub hl [3, 4, 5, 6, 0] rfl) hP hS
    · replace hM := gi_t hc921 hM
      refine lv_aload_n hx hb d_law_924 rfl (lv_at hl 5 rfl) ?_
      refine lv_iconst (v := (0 : Int32)) hx hb d_law_925 (by decide) ?_
      obtain ⟨hi926, hM⟩ := gc_some hM
      refine g_lald C hP rfl hi926 d_law_926 ?_
      refine lv_iload hx hb d_law_927 (lv_at hl 0 rfl) ?_
      refine lv_i2l (v := q903.1.toInt64) hx hb d_law_929 rfl ?_
      refine W.lcmp hx hb d_law_930 ?_
      refine lv_if_eq (tgt := 936) hx hb d_law_931 (by decide) (fun hc931 => ?_) (fun hc931 => ?_)
      · replace hM := gi_t hc931 hM
        refine lv_goto (tgt := 975) hx hb d_law_936 (by decide) ?_
        refine lv_iinc (k := 6) (v := x4 + (6 : Int32)) (lv' := [(4, .int (x4 + (6 : Int32))), (6, .int q903.1), (5, .int q879.1), (0, .ref b), (1, .ref (ρ 0)), (2, .ref (ρ 42)), (3, .ref (ρ 66))]) hx hb d_law_975 hl rfl (congrArg (fun z => x4 + z) (by decide)) (by decide) rfl (fun ls hl => ?_)
        refine lv_goto (tgt := 23) hx hb d_law_978 (by decide) ?_
        obtain rfl := Option.some.inj hM
        refine W.widen (k := cells + 1) (n := slots + 6) (by omega) (by omega) ?_
        exact hN ls H locs (lv_sub hl [3, 4, 5, 6, 0] rfl) hP hS
      · replace hM := gi_f hc931 hM
        refine lv_iconst (v := (0 : Int32)) hx hb d_law_934 (by decide) ?_
        cases hM
  · replace hM := gi_f hc914 hM
    refine lv_iconst (v := (0 : Int32)) hx hb d_law_917 (by decide) ?_
    cases hM
noncomputable def M_Law_c12 (L : Nat) (xs : Nat → Int32) (x4 : Int32) (u : gSt) : Option gSt :=
  gc (gIn (x4 + (1 : Int32)) L) <| (M_Desk_character (xs (gIx (x4 + (1 : Int32)))) u).bind fun q946 =>
  gc (gIn (x4 + (1 : Int32)) L) <| (M_Model_character (xs (gIx (x4 + (1 : Int32)))) q946.2).bind fun q956 =>
  if q946.1 = q956.1 then
    (some q956.2)
  else
    (none)
set_option maxHeartbeats 4000000 in
set_option maxRecDepth 100000 in
theorem t_Law_c12 (C : gX "TermDeskLaw" code 7 ret 12 428 R cells slots cy D ρ A p s m args meth c) (X2 : gX2 A s) (hfl : l.stackTraces = false) (hc1 : cells + 1 ≤ R.cells) (hc2 : slots + 6 ≤ R.slots) {b L : Nat} {xs : Nat → Int32} (hX : va_X b L xs s s.heap) (hbl : b < s.heap.size) (hbA : ¬ A b) {x4 : Int32} {u z : gSt} (hM : M_Law_c12 L xs x4 u = some z) (hN : ∀ (ls : Array Slot) (H : Heap) (locs : List Loc), lv_has ls 7 [(0, .ref b), (1, .ref (ρ 0)), (2, .ref (ρ 42)), (3, .ref (ρ 66)), (4, .int (x4 + (6 : Int32)))] → va_P D gCl (gW cy ρ z) H → va_S A s.heap H locs → W p l e R s m args below meth c H locs (cells + 1) (slots + 6) Q (F0 m 23 ls [])) (ls : Array Slot) (H : Heap) (locs : List Loc) (hl : lv_has ls 7 [(0, .ref b), (1, .ref (ρ 0)), (2, .ref (ρ 42)), (3, .ref (ρ 66)), (4, .int x4)]) (hP : va_P D gCl (gW cy ρ u) H) (hS : va_S A s.heap H locs) : W p l e R s m args below meth c H locs cells slots Q (F0 m 939 ls []) := by
  have hx := C.1
  have hb := C.2.1
  unfold M_Law_c12 at hM
  refine lv_aload_n hx hb d_law_939 rfl (lv_at hl 1 rfl) ?_
  refine lv_aload_n hx hb d_law_940 rfl (lv_at hl 0 rfl) ?_
  refine lv_iload hx hb d_law_941 (lv_at hl 4 rfl) ?_
  refine lv_iconst (v := (1 : Int32)) hx hb d_law_943 (by decide) ?_
  refine lv_iadd hx hb d_law_944 ?_
  obtain ⟨hi945, hM⟩ := gc_some hM
  refine va_sld hx hb hX hbl hbA hS (gIn_in hi945) d_law_945 ?_
  obtain ⟨q946, hq946, hM⟩ := gb_some hM
  refine g_backI (g_runV (As := [.int (xs (gIx (x4 + (1 : Int32))))]) C hP (c_Desk_character C.2.2.2.2.2.2.2.2.1 hq946) gi_Desk_character gm_Law_106 rfl rfl (by decide) (by decide) hl.1 rfl (Nat.le_of_ble_eq_true rfl) d_law_946) hS (fun H locs hP hS => ?_)
  refine lv_aload_n hx hb d_law_949 rfl (lv_at hl 2 rfl) ?_
  refine lv_aload_n hx hb d_law_950 rfl (lv_at hl 0 rfl) ?_
  refine lv_iload hx hb d_law_951 (lv_at hl 4 rfl) ?_
  refine lv_iconst (v := (1 : Int32)) hx hb d_law_953 (by decide) ?_
  refine lv_iadd hx hb d_law_954 ?_
  obtain ⟨hi955, hM⟩ := gc_some hM
  refine va_sld hx hb hX hbl hbA hS (gIn_in hi955) d_law_955 ?_
  obtain ⟨q956, hq956, hM⟩ := gb_some hM
  refine g_backI (g_runV (As := [.int (xs (gIx (x4 + (1 : Int32))))]) C hP (c_Model_character C.2.2.2.2.2.2.2.2.1 hq956) gi_Model_character gm_Law_109 rfl rfl (by decide) (by decide) hl.1 rfl (Nat.le_of_ble_eq_true rfl) d_law_956) hS (fun H locs hP hS => ?_)
  refine lv_icmp_eq (tgt := 975) hx hb d_law_959 (by decide) (fun hc959 => ?_) (fun hc959 => ?_)
  · replace hM := gi_t hc959 hM
    refine lv_iinc (k := 4) (v := x4 + (6 : Int32)) (lv' := [(4, .int (x4 + (6 : Int32))), (0, .ref b), (1, .ref (ρ 0)), (2, .ref (ρ 42)), (3, .ref (ρ 66))]) hx hb d_law_975 hl rfl (congrArg (fun z => x4 + z) (by decide)) (by decide) rfl (fun ls hl => ?_)
    refine lv_goto (tgt := 23) hx hb d_law_978 (by decide) ?_
    obtain rfl := Option.some.inj hM
    refine W.widen (k := cells + 1) (n := slots + 6) (by omega) (by omega) ?_
    exact hN ls H locs (lv_sub hl [1, 2, 3, 4, 0] rfl) hP hS
  · replace hM := gi_f hc959 hM
    refine lv_iconst (v := (0 : Int32)) hx hb d_law_962 (by decide) ?_
    cases hM
noncomputable def M_Law_c13 (L : Nat) (xs : Nat → Int32) (x4 : Int32) (u : gSt) : Option gSt :=
  (M_Desk_clear u).bind fun q965 =>
  (M_Model_clear q965).bind fun q969 =>
  some q969
set_option maxHeartbeats 4000000 in
set_option maxRecDepth 100000 in
theorem t_Law_c13 (C : gX "TermDeskLaw" code 7 ret 12 428 R cells slots cy D ρ A p s m args meth c) (X2 : gX2 A s) (hfl : l.stackTraces = false) (hc1 : cells + 1 ≤ R.cells) (hc2 : slots + 6 ≤ R.slots) {b L : Nat} {xs : Nat → Int32} (hX : va_X b L xs s s.heap) (hbl : b < s.heap.size) (hbA : ¬ A b) {x4 : Int32} {u z : gSt} (hM : M_Law_c13 L xs x4 u = some z) (hN : ∀ (ls : Array Slot) (H : Heap) (locs : List Loc), lv_has ls 7 [(0, .ref b), (1, .ref (ρ 0)), (2, .ref (ρ 42)), (3, .ref (ρ 66)), (4, .int (x4 + (6 : Int32)))] → va_P D gCl (gW cy ρ z) H → va_S A s.heap H locs → W p l e R s m args below meth c H locs (cells + 1) (slots + 6) Q (F0 m 23 ls [])) (ls : Array Slot) (H : Heap) (locs : List Loc) (hl : lv_has ls 7 [(0, .ref b), (1, .ref (ρ 0)), (2, .ref (ρ 42)), (3, .ref (ρ 66)), (4, .int x4)]) (hP : va_P D gCl (gW cy ρ u) H) (hS : va_S A s.heap H locs) : W p l e R s m args below meth c H locs cells slots Q (F0 m 964 ls []) := by
  have hx := C.1
  have hb := C.2.1
  unfold M_Law_c13 at hM
  refine lv_aload_n hx hb d_law_964 rfl (lv_at hl 1 rfl) ?_
  obtain ⟨q965, hq965, hM⟩ := gb_some hM
  refine g_backV (g_runV (As := []) C hP (c_Desk_clear C.2.2.2.2.2.2.2.2.1 hq965) gi_Desk_clear gm_Law_110 rfl rfl (by decide) (by decide) hl.1 rfl (Nat.le_of_ble_eq_true rfl) d_law_965) hS (fun H locs hP hS => ?_)
  refine lv_aload_n hx hb d_law_968 rfl (lv_at hl 2 rfl) ?_
  obtain ⟨q969, hq969, hM⟩ := gb_some hM
  refine g_backV (g_runV (As := []) C hP (c_Model_clear C.2.2.2.2.2.2.2.2.1 hq969) gi_Model_clear gm_Law_113 rfl rfl (by decide) (by decide) hl.1 rfl (Nat.le_of_ble_eq_true rfl) d_law_969) hS (fun H locs hP hS => ?_)
  refine lv_goto (tgt := 975) hx hb d_law_972 (by decide) ?_
  refine lv_iinc (k := 4) (v := x4 + (6 : Int32)) (lv' := [(4, .int (x4 + (6 : Int32))), (0, .ref b), (1, .ref (ρ 0)), (2, .ref (ρ 42)), (3, .ref (ρ 66))]) hx hb d_law_975 hl rfl (congrArg (fun z => x4 + z) (by decide)) (by decide) rfl (fun ls hl => ?_)
  refine lv_goto (tgt := 23) hx hb d_law_978 (by decide) ?_
  obtain rfl := Option.some.inj hM
  refine W.widen (k := cells + 1) (n := slots + 6) (by omega) (by omega) ?_
  exact hN ls H locs (lv_sub hl [1, 2, 3, 4, 0] rfl) hP hS
end
