/-! The model's rows: isBefore, the gap, the cut-off. -/
theorem slt_i {nu de : Nat → Nat} {c d : Nat} : slt nu de c d ↔ nu c * de d ≤ nu d * de c ∧ (¬ nu d * de c ≤ nu c * de d ∨ c < d) := by
  unfold slt
  omega
theorem slt_tr {nu de : Nat → Nat} {c d e : Nat} (hc : 0 < de c) (hd : 0 < de d) (he : 0 < de e) (h : slt nu de c d) (k : slt nu de d e) : slt nu de c e := by
  rw [slt_i] at h k ⊢
  refine ⟨fr_tr hd h.1 k.1, ?_⟩
  by_cases l : nu e * de c ≤ nu c * de e
  · right
    have l1 : nu d * de c ≤ nu c * de d := fr_tr he k.1 l
    have l2 : nu e * de d ≤ nu d * de e := fr_tr hc l h.1
    have h2 := h.2
    have k2 := k.2
    have a1 : c < d := by
      rcases h2 with h2 | h2
      · exact absurd l1 h2
      · exact h2
    have a2 : d < e := by
      rcases k2 with k2 | k2
      · exact absurd l2 k2
      · exact k2
    omega
  · exact Or.inl l
theorem slt_to {nu de : Nat → Nat} {c d : Nat} (hne : c ≠ d) (h : ¬ slt nu de c d) : slt nu de d c := by
  unfold slt at *
  omega
theorem cN_b {s : GS} {v j : Nat} (h : j < z_m s) : cN s v (z_b s j) = zN s v j ∧ cD s v (z_b s j) = zD s v j := by
  unfold cN cD
  rw [z_p_b h]
  exact ⟨rfl, rfl⟩
def bef (s : GS) (v j i : Nat) : Bool := decide (zN s v j * zD s v i < zN s v i * zD s v j ∨ (zN s v j * zD s v i = zN s v i * zD s v j ∧ z_b s j < z_b s i))
theorem bef_i {s : GS} {v j i : Nat} (hj : j < z_m s) (hi : i < z_m s) : bef s v j i = true ↔ slt (cN s v) (cD s v) (z_b s j) (z_b s i) := by
  unfold bef slt
  rw [(cN_b hj).1, (cN_b hj).2, (cN_b hi).1, (cN_b hi).2, decide_eq_true_iff]
/-- what stands of the model while it picks rows -/
def Bd (u v : gSt) (s : GS) : Prop := St u v s ∧ (∀ i, i < z_m s → Z4 v s i) ∧ Sv v 63 0 (z_A s)
theorem Bd_X {P : Nat → Prop} {u v w : gSt} {s : GS} (h : Bd u v s) (f : FX P v w) (h4 : ¬ P 4) : Bd u w s := ⟨St_T h.1 (FT_X (i := 0) f h4), fun i hi k hk => Ts_X f (h.2.1 i hi k hk), Sv_X f (by decide) (by decide) h.2.2⟩
theorem Ts_R {u : gSt} {a i x p : Nat} {f : Nat → Int32} (h1 : a ≠ 59) (h2 : a ≠ 60) (h : Ts u i x p) : Ts (gsR u a f) i x p := ⟨Sv_R (Ne.symm h1) h.1, by rw [gsR_b (Ne.symm h2)]; exact h.2⟩
theorem Lc_R {u : gSt} {s : GS} {c a : Nat} {f : Nat → Int32} (h : 61 ≤ a) (hl : Lc u s c) : Lc (gsR u a f) s c := ⟨hl.1, Rs_R (by omega) (by omega) hl.2.1, fun j hj => ⟨Sv_R (by omega) (hl.2.2 j hj).1, by rw [gsR_b (by omega)]; exact (hl.2.2 j hj).2⟩⟩
theorem Bd_R {u v : gSt} {s : GS} {a : Nat} {f : Nat → Int32} (h : Bd u v s) (ha : a = 61 ∨ a = 62) : Bd u (gsR v a f) s := ⟨⟨FQ_t h.1.1 (FQ_R (by omega) (by omega)), Mg_R (by omega) h.1.2.1, Lc_R (by omega) h.1.2.2⟩, fun i hi k hk => Ts_R (by omega) (by omega) (h.2.1 i hi k hk), Sv_R (by omega) h.2.2⟩
theorem Bd_F {u v : gSt} {s : GS} {x : Int32} (h : Bd u v s) : Bd u (gsF v 42 36 x) s := ⟨⟨FQ_t h.1.1 (FQ_F (Or.inr rfl)), Mg_31 (Or.inr rfl) h.1.2.1, ⟨(gF_o (by omega)).trans h.1.2.2.1, h.1.2.2.2.1, h.1.2.2.2.2⟩⟩, h.2.1, h.2.2⟩
theorem Bd_sp {u v : gSt} {s : GS} (hs : Gd s) (h : Bd u v s) : Bd u (sp v (s_t s) (s_n s)) s := ⟨⟨FQ_t h.1.1 (FQ_P (P := fun _ => False) FP_sp), Mg_after h.1.2.1 hs, Lc_P FP_sp h.1.2.2⟩, fun i hi k hk => ⟨Sv_P (P := fun _ => False) FP_sp (by decide) (by decide) (by decide) (h.2.1 i hi k hk).1, by rw [sp_A (by decide)]; exact (h.2.1 i hi k hk).2⟩, Sv_P (P := fun _ => False) FP_sp (by decide) (by decide) (by decide) h.2.2⟩
theorem zN_200 {s : GS} (hs : Gd s) {v j : Nat} (hj : j < z_m s) : zN s v j ≤ 2 ^ 200 * 200 := Nat.le_trans (zV_ok hs hj).2.1 (Nat.mul_le_mul (z_A_le hs) (zV_ok hs hj).2.2.2)
theorem z_t_i {s : GS} {c d : Nat} (hc : c < z_m s) (hd : d < z_m s) : z_t s c < z_t s d ↔ c < d := by
  constructor
  · intro h
    by_cases e : c < d
    · exact e
    · by_cases e2 : c = d
      · rw [e2] at h
        omega
      · have := na_lt (P := s_can s) (T := s_t s) (c := d) (d := c) hc (by omega)
        unfold z_t at h
        omega
  · exact fun h => na_lt hd h
theorem r_before {u v : gSt} {s : GS} {va j i : Nat} (hs : Gd s) (h : Bd u v s) (hva : va < 4) (hj : j < z_m s) (hi : i < z_m s) : ∃ w, M_Model_isBefore (nI (4 * j + va)) (nI (4 * i + va)) v = some (b2i (bef s va j i), w) ∧ FX (fun y => y = 5 ∨ y = 6) v w := by
  have hm := z_m_le hs
  have hT := hs.1
  have o1 := zV_ok hs (v := va) hj
  have o2 := zV_ok hs (v := va) hi
  obtain ⟨w, e, f⟩ := r_compare (v := v) (a := 4 * j + va) (b := 4 * i + va) (by omega) (by omega) (h.2.1 j hj va hva) (h.2.1 i hi va hva) (zN_200 hs hj) (zN_200 hs hi) o1.2.2.2 o2.2.2.2
  refine ⟨w, ?_, f⟩
  have cj : w.2.2.1 58 j = nI (z_t s (z_b s j)) := by
    rw [f.2.2.1 58 (by decide) (by decide)]
    exact (h.1.2.2.2.2 j hj).2
  have ci : w.2.2.1 58 i = nI (z_t s (z_b s i)) := by
    rw [f.2.2.1 58 (by decide) (by decide)]
    exact (h.1.2.2.2.2 i hi).2
  have tj := (z_t_lt (z_b_lt hj)).1
  have ti := (z_t_lt (z_b_lt hi)).1
  have dj : nI (4 * j + va) / (4 : Int32) = nI j := by
    rw [show (4 : Int32) = nI 4 from rfl, pk_div (by omega) (by omega) (by omega), show (4 * j + va) / 4 = j by omega]
  have di : nI (4 * i + va) / (4 : Int32) = nI i := by
    rw [show (4 : Int32) = nI 4 from rfl, pk_div (by omega) (by omega) (by omega), show (4 * i + va) / 4 = i by omega]
  unfold M_Model_isBefore M_Model_isBefore_b34 M_Model_isBefore_b38 M_Model_isBefore_b39
  rw [e, Option.bind_some]
  show (if cmp (zN s va j * zD s va i) (zN s va i * zD s va j) < (0 : Int32) then (gc (gZ (1 : Int32)) <| some ((1 : Int32), w)) else (if cmp (zN s va j * zD s va i) (zN s va i * zD s va j) = (0 : Int32) then (gc (gIn (nI (4 * j + va) / (4 : Int32)) (gLen 58)) <| gc (gIn (nI (4 * i + va) / (4 : Int32)) (gLen 58)) <| if w.2.2.1 58 (gIx (nI (4 * i + va) / (4 : Int32))) ≤ w.2.2.1 58 (gIx (nI (4 * j + va) / (4 : Int32))) then (gc (gZ (0 : Int32)) <| some ((0 : Int32), w)) else (gc (gZ (1 : Int32)) <| some ((1 : Int32), w))) else (gc (gZ (0 : Int32)) <| some ((0 : Int32), w)))) = _
  rw [dj, di, gc_t (show gZ (1 : Int32) = true from rfl), gc_t (show gZ (0 : Int32) = true from rfl), gc_t (qi_in (n := gLen 58) (by omega) (show j < 200 by omega)), gc_t (qi_in (n := gLen 58) (by omega) (show i < 200 by omega)), qi_ix (by omega), qi_ix (by omega), cj, ci]
  have zt := z_t_i (z_b_lt hj) (z_b_lt hi)
  by_cases c1 : zN s va j * zD s va i < zN s va i * zD s va j
  · rw [if_pos (cmp_neg.mpr c1), show bef s va j i = true from decide_eq_true (Or.inl c1)]
    rfl
  · rw [if_neg (by rw [cmp_neg]; exact c1)]
    by_cases c2 : zN s va j * zD s va i = zN s va i * zD s va j
    · rw [if_pos (cmp_eq.mpr c2)]
      by_cases c3 : z_b s j < z_b s i
      · rw [if_neg (by rw [qi_le (by omega) (by omega)]; have := zt.mpr c3; omega), show bef s va j i = true from decide_eq_true (Or.inr ⟨c2, c3⟩)]
        rfl
      · rw [if_pos ((qi_le (by omega) (by omega)).mpr (by have : ¬ z_t s (z_b s j) < z_t s (z_b s i) := fun h9 => c3 (zt.mp h9); omega)), show bef s va j i = false from decide_eq_false (by omega)]
        rfl
    · rw [if_neg (by rw [cmp_eq]; exact c2), show bef s va j i = false from decide_eq_false (by omega)]
      rfl
/-- place0 with a gap at k -/
def Pg (v : gSt) (Q : Nat → Nat) (R k : Nat) : Prop := ∀ i, i ≤ R → i ≠ k → v.2.2.1 61 i = nI (shA Q k i)
theorem r_pgap {u : gSt} {s : GS} {va j R : Nat} {a b : Int32} {Q : Nat → Nat} (hs : Gd s) (hva : va < 4) (hj : j < z_m s) (hR : R < 200) (hQ : ∀ i, i < R → Q i < z_m s) : ∀ (k : Nat) (v : gSt), k ≤ R → Bd u v s → v.1 42 36 = nI R → Pg v Q R k → (∀ i, k ≤ i → i < R → bef s va j (Q i) = true) → ∃ p w, p ≤ k ∧ gLp M_Model_report_L148 (nI va, a, b, nI j, nI k, v) = some (nI va, a, b, nI j, nI p, w) ∧ Bd u w s ∧ w.1 42 36 = nI R ∧ Pg w Q R p ∧ (∀ i, p ≤ i → i < R → bef s va j (Q i) = true) ∧ (∀ i, i + 1 = p → bef s va j (Q i) = false)
  | 0, v, hk, hb, h36, hg, hbe => by
    refine ⟨0, v, Nat.le_refl _, gLp_done ?_, hb, h36, hg, hbe, fun i hi => by omega⟩
    show M_Model_report_b148 (nI va) a b (nI j) (nI 0) v = _
    unfold M_Model_report_b148
    rw [if_pos (by decide)]
  | k + 1, v, hk, hb, h36, hg, hbe => by
    have hm := z_m_le hs
    have qk := hQ k (by omega)
    have g1 := hg k (by omega) (by omega)
    rw [show shA Q (k + 1) k = Q k from if_pos (by omega)] at g1
    obtain ⟨w, ew, fw⟩ := r_before hs hb hva hj qk
    have bw := Bd_X hb fw (by decide)
    have hun : M_Model_report_b148 (nI va) a b (nI j) (nI (k + 1)) v = if b2i (bef s va j (Q k)) = (0 : Int32) then some (.inr (nI va, a, b, nI j, nI (k + 1), w)) else some (.inl (nI va, a, b, nI j, nI k, gsR w 61 (upd (w.2.2.1 61) (k + 1) (nI (Q k))))) := by
      unfold M_Model_report_b148
      rw [if_neg (by rw [qi_le0 (by omega)]; omega), show (1 : Int32) = nI 1 from rfl, pk_sub (by omega), show k + 1 - 1 = k by omega, gc_t (qi_in (n := gLen 61) (by omega) (show k < 200 by omega)), qi_ix (by omega), g1, show (4 : Int32) = nI 4 from rfl, qi_mul, qi_mul, qi_add, qi_add, ew, Option.bind_some]
      show (if b2i (bef s va j (Q k)) = (0 : Int32) then _ else (gc (gIn (nI k) (gLen 61)) <| gc (gIn (nI (k + 1)) (gLen 61)) <| some (Sum.inl (nI va, a, b, nI j, nI (k + 1) + (-1 : Int32), gsA w 61 (gIx (nI (k + 1))) (w.2.2.1 61 k))))) = _
      rw [gc_t (qi_in (n := gLen 61) (by omega) (show k < 200 by omega)), gc_t (qi_in (n := gLen 61) (by omega) (show k + 1 < 200 by omega)), qi_ix (by omega), qi_m1 (by omega), show k + 1 - 1 = k by omega, gsA_R, fw.2.2.1 61 (by decide) (by decide), g1]
    cases eb : bef s va j (Q k)
    · refine ⟨k + 1, w, Nat.le_refl _, gLp_done ?_, bw, by rw [fw.1 42 36 (by omega)]; exact h36, fun i h1 h2 => by rw [fw.2.2.1 61 (by decide) (by decide)]; exact hg i h1 h2, hbe, fun i hi => by rw [show i = k by omega]; exact eb⟩
      show M_Model_report_b148 (nI va) a b (nI j) (nI (k + 1)) v = _
      rw [hun, eb, if_pos (show b2i false = (0 : Int32) from rfl)]
    · obtain ⟨p, w2, hp, e2, r⟩ := r_pgap (u := u) (a := a) (b := b) hs hva hj hR hQ k (gsR w 61 (upd (w.2.2.1 61) (k + 1) (nI (Q k)))) (by omega) (Bd_R bw (Or.inl rfl)) ((fw.1 42 36 (by omega)).trans h36) (fun i h1 h2 => by
        rw [gsR_a]
        by_cases c : i = k + 1
        · rw [c, pk_us, show shA Q k (k + 1) = Q k from if_neg (by omega)]
        · rw [pk_un c, fw.2.2.1 61 (by decide) (by decide), hg i h1 c]
          unfold shA
          by_cases c1 : i < k
          · rw [if_pos c1, if_pos (by omega)]
          · rw [if_neg c1, if_neg (by omega)]) (fun i h1 h2 => by
        by_cases c : i = k
        · rw [c]
          exact eb
        · exact hbe i (by omega) h2)
      refine ⟨p, w2, by omega, ?_, r⟩
      rw [gLp_next (f := M_Model_report_L148) (show M_Model_report_L148 (nI va, a, b, nI j, nI (k + 1), v) = some (.inl (nI va, a, b, nI j, nI k, gsR w 61 (upd (w.2.2.1 61) (k + 1) (nI (Q k))))) from by
        show M_Model_report_b148 (nI va) a b (nI j) (nI (k + 1)) v = _
        rw [hun, eb, if_neg (by decide)])]
      exact e2
