/-! From the made cells to the world; the start's walk. -/
/-- where the cells lie: the desk's (q1, d), the model's (q2, w), the law's array (q3) -/
def st_rho (q1 q2 q3 : Nat) (d w : (Nat → Nat) × (Nat → Nat)) (a : Nat) : Nat := if a = 0 then q1 else if a < 42 then d.1 (a - 1) else if a = 42 then q2 else if a < 66 then w.1 (a - 43) else if a = 66 then q3 else d.2 (a - 67)
/-- the world at the start -/
def st_u : gSt := (fun a k => if a = 0 then (if k = 6 then -1 else 0) else if a = 1 then (if k = 3 then -1 else if k = 6 then -1 else if k = 7 then -1 else 0) else if a = 42 then (if k = 3 then -1 else 0) else 0, fun _ _ => 0, fun _ _ => 0, fun _ _ => 0)
def st_desk (cy : Nat → ClassId) (q1 : Nat) (d : (Nat → Nat) × (Nat → Nat)) : va_W := [(q1, .inr (0, [.ref (d.1 0), .ref (d.1 1), .ref (d.1 3), .ref (d.1 26), .ref (d.1 37), .int 0, .int (-1), .int 0])), ((d.1 0), .inr (1, [.ref (d.1 1), .ref (d.1 3), .int 0, .int (-1), .long 0, .long 0, .int (-1), .int (-1)])), ((d.1 1), .inr (2, [.ref (d.1 2), .int 0, .int 0, .int 0, .int 0, .int 0])), ((d.1 2), .inl (cy 20, 40000, .inl (fun _ => 0))), ((d.1 3), .inr (3, [.ref (d.1 4), .ref (d.1 8), .ref (d.1 12), .ref (d.1 14), .ref (d.1 16), .ref (d.1 18), .ref (d.1 20), .ref (d.1 22), .ref (d.1 24), .int 0, .int 0, .int 0])), ((d.1 4), .inr (4, [.ref (d.1 5), .ref (d.1 6), .ref (d.1 7), .int 0])), ((d.1 5), .inl (cy 24, 300, .inr (.inl (fun _ => 0)))), ((d.1 6), .inl (cy 24, 300, .inr (.inl (fun _ => 0)))), ((d.1 7), .inl (cy 22, 300, .inl (fun _ => 0))), ((d.1 8), .inr (4, [.ref (d.1 9), .ref (d.1 10), .ref (d.1 11), .int 0])), ((d.1 9), .inl (cy 24, 200, .inr (.inl (fun _ => 0)))), ((d.1 10), .inl (cy 24, 200, .inr (.inl (fun _ => 0)))), ((d.1 11), .inl (cy 22, 200, .inl (fun _ => 0))), ((d.1 12), .inr (5, [.ref (d.1 13)])), ((d.1 13), .inl (cy 24, 800, .inr (.inl (fun _ => 0)))), ((d.1 14), .inr (5, [.ref (d.1 15)])), ((d.1 15), .inl (cy 24, 800, .inr (.inl (fun _ => 0)))), ((d.1 16), .inr (5, [.ref (d.1 17)])), ((d.1 17), .inl (cy 24, 800, .inr (.inl (fun _ => 0)))), ((d.1 18), .inr (5, [.ref (d.1 19)])), ((d.1 19), .inl (cy 24, 800, .inr (.inl (fun _ => 0)))), ((d.1 20), .inr (5, [.ref (d.1 21)])), ((d.1 21), .inl (cy 24, 4, .inr (.inl (fun _ => 0)))), ((d.1 22), .inr (5, [.ref (d.1 23)])), ((d.1 23), .inl (cy 24, 4, .inr (.inl (fun _ => 0)))), ((d.1 24), .inr (5, [.ref (d.1 25)])), ((d.1 25), .inl (cy 24, 8, .inr (.inl (fun _ => 0)))), ((d.1 26), .inr (6, [.ref (d.1 27), .ref (d.1 28), .ref (d.1 29), .ref (d.1 30), .ref (d.1 31), .ref (d.1 32), .ref (d.1 33), .ref (d.1 34), .ref (d.1 35), .ref (d.1 36), .int 0, .int 0, .int 0, .int 0])), ((d.1 27), .inl (cy 22, 200, .inl (fun _ => 0))), ((d.1 28), .inl (cy 22, 200, .inl (fun _ => 0))), ((d.1 29), .inl (cy 22, 200, .inl (fun _ => 0))), ((d.1 30), .inl (cy 25, 800, .inr (.inr (.inr (.inr (fun i => if i < 800 then some (d.2 i) else none)))))), ((d.1 31), .inl (cy 22, 800, .inl (fun _ => 0))), ((d.1 32), .inl (cy 22, 8, .inl (fun _ => 0))), ((d.1 33), .inl (cy 22, 200, .inl (fun _ => 0))), ((d.1 34), .inl (cy 22, 200, .inl (fun _ => 0))), ((d.1 35), .inl (cy 22, 8, .inl (fun _ => 0))), ((d.1 36), .inl (cy 22, 8, .inl (fun _ => 0))), ((d.1 37), .inr (7, [.ref (d.1 38), .ref (d.1 39), .ref (d.1 40), .int 0])), ((d.1 38), .inl (cy 21, 160, .inl (fun _ => 0))), ((d.1 39), .inl (cy 22, 8, .inl (fun _ => 0))), ((d.1 40), .inl (cy 22, 8, .inl (fun _ => 0)))]
def st_model (cy : Nat → ClassId) (q2 : Nat) (w : (Nat → Nat) × (Nat → Nat)) : va_W := [(q2, .inr (8, [.ref (w.1 0), .int 0, .int 0, .int (-1), .ref (w.1 1), .ref (w.1 2), .ref (w.1 3), .int 0, .ref (w.1 4), .ref (w.1 5), .int 0, .int 0, .ref (w.1 6), .ref (w.1 7), .ref (w.1 8), .ref (w.1 9), .ref (w.1 10), .int 0, .int 0, .int 0, .ref (w.1 11), .int 0, .int 0, .int 0, .int 0, .int 0, .ref (w.1 12), .ref (w.1 13), .int 0, .ref (w.1 14), .ref (w.1 15), .int 0, .ref (w.1 16), .ref (w.1 17), .ref (w.1 18), .ref (w.1 19), .int 0, .ref (w.1 20), .ref (w.1 21), .int 0, .ref (w.1 22), .int 0])), ((w.1 0), .inl (cy 20, 40000, .inl (fun _ => 0))), ((w.1 1), .inl (cy 20, 3600, .inl (fun _ => 0))), ((w.1 2), .inl (cy 22, 300, .inl (fun _ => 0))), ((w.1 3), .inl (cy 22, 300, .inl (fun _ => 0))), ((w.1 4), .inl (cy 20, 2400, .inl (fun _ => 0))), ((w.1 5), .inl (cy 22, 200, .inl (fun _ => 0))), ((w.1 6), .inl (cy 22, 200, .inl (fun _ => 0))), ((w.1 7), .inl (cy 23, 40000, .inl (fun _ => 0))), ((w.1 8), .inl (cy 23, 40000, .inl (fun _ => 0))), ((w.1 9), .inl (cy 23, 40000, .inl (fun _ => 0))), ((w.1 10), .inl (cy 23, 40000, .inl (fun _ => 0))), ((w.1 11), .inl (cy 23, 200, .inl (fun _ => 0))), ((w.1 12), .inl (cy 22, 384, .inl (fun _ => 0))), ((w.1 13), .inl (cy 22, 8, .inl (fun _ => 0))), ((w.1 14), .inl (cy 22, 4000, .inl (fun _ => 0))), ((w.1 15), .inl (cy 22, 200, .inl (fun _ => 0))), ((w.1 16), .inl (cy 22, 16000, .inl (fun _ => 0))), ((w.1 17), .inl (cy 22, 800, .inl (fun _ => 0))), ((w.1 18), .inl (cy 22, 200, .inl (fun _ => 0))), ((w.1 19), .inl (cy 22, 1000, .inl (fun _ => 0))), ((w.1 20), .inl (cy 22, 20, .inl (fun _ => 0))), ((w.1 21), .inl (cy 22, 400, .inl (fun _ => 0))), ((w.1 22), .inl (cy 22, 200, .inl (fun _ => 0)))]
def st_out (cy : Nat → ClassId) (q3 : Nat) : va_W := [(q3, .inl (cy 24, 1, .inr (.inl (fun _ => 0))))]
theorem st_up {q1 q2 q3 : Nat} {d w : (Nat → Nat) × (Nat → Nat)} : (fun i => (gAR 31 i).map (st_rho q1 q2 q3 d w)) = (fun i => if i < 800 then some (d.2 i) else none) := by
  funext i
  unfold gAR
  rw [if_pos rfl]
  by_cases hi : i < 800
  · rw [if_pos hi, if_pos hi]
    show some (st_rho q1 q2 q3 d w (67 + i)) = _
    unfold st_rho
    rw [if_neg (by omega), if_neg (by omega), if_neg (by omega), if_neg (by omega), if_neg (by omega), show 67 + i - 67 = i by omega]
  · rw [if_neg hi, if_neg hi]
    rfl
theorem st_c0 {cy : Nat → ClassId} {q1 q2 q3 : Nat} {d w : (Nat → Nat) × (Nat → Nat)} : ((st_rho q1 q2 q3 d w 0, gCell cy (st_rho q1 q2 q3 d w) st_u 0) : Nat × va_E) = (q1, .inr (0, [.ref (d.1 0), .ref (d.1 1), .ref (d.1 3), .ref (d.1 26), .ref (d.1 37), .int 0, .int (-1), .int 0])) := rfl
theorem st_c1 {cy : Nat → ClassId} {q1 q2 q3 : Nat} {d w : (Nat → Nat) × (Nat → Nat)} : ((st_rho q1 q2 q3 d w 1, gCell cy (st_rho q1 q2 q3 d w) st_u 1) : Nat × va_E) = ((d.1 0), .inr (1, [.ref (d.1 1), .ref (d.1 3), .int 0, .int (-1), .long 0, .long 0, .int (-1), .int (-1)])) := rfl
theorem st_c2 {cy : Nat → ClassId} {q1 q2 q3 : Nat} {d w : (Nat → Nat) × (Nat → Nat)} : ((st_rho q1 q2 q3 d w 2, gCell cy (st_rho q1 q2 q3 d w) st_u 2) : Nat × va_E) = ((d.1 1), .inr (2, [.ref (d.1 2), .int 0, .int 0, .int 0, .int 0, .int 0])) := rfl
theorem st_c3 {cy : Nat → ClassId} {q1 q2 q3 : Nat} {d w : (Nat → Nat) × (Nat → Nat)} : ((st_rho q1 q2 q3 d w 3, gCell cy (st_rho q1 q2 q3 d w) st_u 3) : Nat × va_E) = ((d.1 2), .inl (cy 20, 40000, .inl (fun _ => 0))) := rfl
theorem st_c4 {cy : Nat → ClassId} {q1 q2 q3 : Nat} {d w : (Nat → Nat) × (Nat → Nat)} : ((st_rho q1 q2 q3 d w 4, gCell cy (st_rho q1 q2 q3 d w) st_u 4) : Nat × va_E) = ((d.1 3), .inr (3, [.ref (d.1 4), .ref (d.1 8), .ref (d.1 12), .ref (d.1 14), .ref (d.1 16), .ref (d.1 18), .ref (d.1 20), .ref (d.1 22), .ref (d.1 24), .int 0, .int 0, .int 0])) := rfl
theorem st_c5 {cy : Nat → ClassId} {q1 q2 q3 : Nat} {d w : (Nat → Nat) × (Nat → Nat)} : ((st_rho q1 q2 q3 d w 5, gCell cy (st_rho q1 q2 q3 d w) st_u 5) : Nat × va_E) = ((d.1 4), .inr (4, [.ref (d.1 5), .ref (d.1 6), .ref (d.1 7), .int 0])) := rfl
theorem st_c6 {cy : Nat → ClassId} {q1 q2 q3 : Nat} {d w : (Nat → Nat) × (Nat → Nat)} : ((st_rho q1 q2 q3 d w 6, gCell cy (st_rho q1 q2 q3 d w) st_u 6) : Nat × va_E) = ((d.1 5), .inl (cy 24, 300, .inr (.inl (fun _ => 0)))) := rfl
theorem st_c7 {cy : Nat → ClassId} {q1 q2 q3 : Nat} {d w : (Nat → Nat) × (Nat → Nat)} : ((st_rho q1 q2 q3 d w 7, gCell cy (st_rho q1 q2 q3 d w) st_u 7) : Nat × va_E) = ((d.1 6), .inl (cy 24, 300, .inr (.inl (fun _ => 0)))) := rfl
theorem st_c8 {cy : Nat → ClassId} {q1 q2 q3 : Nat} {d w : (Nat → Nat) × (Nat → Nat)} : ((st_rho q1 q2 q3 d w 8, gCell cy (st_rho q1 q2 q3 d w) st_u 8) : Nat × va_E) = ((d.1 7), .inl (cy 22, 300, .inl (fun _ => 0))) := rfl
theorem st_c9 {cy : Nat → ClassId} {q1 q2 q3 : Nat} {d w : (Nat → Nat) × (Nat → Nat)} : ((st_rho q1 q2 q3 d w 9, gCell cy (st_rho q1 q2 q3 d w) st_u 9) : Nat × va_E) = ((d.1 8), .inr (4, [.ref (d.1 9), .ref (d.1 10), .ref (d.1 11), .int 0])) := rfl
theorem st_c10 {cy : Nat → ClassId} {q1 q2 q3 : Nat} {d w : (Nat → Nat) × (Nat → Nat)} : ((st_rho q1 q2 q3 d w 10, gCell cy (st_rho q1 q2 q3 d w) st_u 10) : Nat × va_E) = ((d.1 9), .inl (cy 24, 200, .inr (.inl (fun _ => 0)))) := rfl
theorem st_c11 {cy : Nat → ClassId} {q1 q2 q3 : Nat} {d w : (Nat → Nat) × (Nat → Nat)} : ((st_rho q1 q2 q3 d w 11, gCell cy (st_rho q1 q2 q3 d w) st_u 11) : Nat × va_E) = ((d.1 10), .inl (cy 24, 200, .inr (.inl (fun _ => 0)))) := rfl
theorem st_c12 {cy : Nat → ClassId} {q1 q2 q3 : Nat} {d w : (Nat → Nat) × (Nat → Nat)} : ((st_rho q1 q2 q3 d w 12, gCell cy (st_rho q1 q2 q3 d w) st_u 12) : Nat × va_E) = ((d.1 11), .inl (cy 22, 200, .inl (fun _ => 0))) := rfl
theorem st_c13 {cy : Nat → ClassId} {q1 q2 q3 : Nat} {d w : (Nat → Nat) × (Nat → Nat)} : ((st_rho q1 q2 q3 d w 13, gCell cy (st_rho q1 q2 q3 d w) st_u 13) : Nat × va_E) = ((d.1 12), .inr (5, [.ref (d.1 13)])) := rfl
theorem st_c14 {cy : Nat → ClassId} {q1 q2 q3 : Nat} {d w : (Nat → Nat) × (Nat → Nat)} : ((st_rho q1 q2 q3 d w 14, gCell cy (st_rho q1 q2 q3 d w) st_u 14) : Nat × va_E) = ((d.1 13), .inl (cy 24, 800, .inr (.inl (fun _ => 0)))) := rfl
theorem st_c15 {cy : Nat → ClassId} {q1 q2 q3 : Nat} {d w : (Nat → Nat) × (Nat → Nat)} : ((st_rho q1 q2 q3 d w 15, gCell cy (st_rho q1 q2 q3 d w) st_u 15) : Nat × va_E) = ((d.1 14), .inr (5, [.ref (d.1 15)])) := rfl
theorem st_c16 {cy : Nat → ClassId} {q1 q2 q3 : Nat} {d w : (Nat → Nat) × (Nat → Nat)} : ((st_rho q1 q2 q3 d w 16, gCell cy (st_rho q1 q2 q3 d w) st_u 16) : Nat × va_E) = ((d.1 15), .inl (cy 24, 800, .inr (.inl (fun _ => 0)))) := rfl
theorem st_c17 {cy : Nat → ClassId} {q1 q2 q3 : Nat} {d w : (Nat → Nat) × (Nat → Nat)} : ((st_rho q1 q2 q3 d w 17, gCell cy (st_rho q1 q2 q3 d w) st_u 17) : Nat × va_E) = ((d.1 16), .inr (5, [.ref (d.1 17)])) := rfl
theorem st_c18 {cy : Nat → ClassId} {q1 q2 q3 : Nat} {d w : (Nat → Nat) × (Nat → Nat)} : ((st_rho q1 q2 q3 d w 18, gCell cy (st_rho q1 q2 q3 d w) st_u 18) : Nat × va_E) = ((d.1 17), .inl (cy 24, 800, .inr (.inl (fun _ => 0)))) := rfl
theorem st_c19 {cy : Nat → ClassId} {q1 q2 q3 : Nat} {d w : (Nat → Nat) × (Nat → Nat)} : ((st_rho q1 q2 q3 d w 19, gCell cy (st_rho q1 q2 q3 d w) st_u 19) : Nat × va_E) = ((d.1 18), .inr (5, [.ref (d.1 19)])) := rfl
theorem st_c20 {cy : Nat → ClassId} {q1 q2 q3 : Nat} {d w : (Nat → Nat) × (Nat → Nat)} : ((st_rho q1 q2 q3 d w 20, gCell cy (st_rho q1 q2 q3 d w) st_u 20) : Nat × va_E) = ((d.1 19), .inl (cy 24, 800, .inr (.inl (fun _ => 0)))) := rfl
theorem st_c21 {cy : Nat → ClassId} {q1 q2 q3 : Nat} {d w : (Nat → Nat) × (Nat → Nat)} : ((st_rho q1 q2 q3 d w 21, gCell cy (st_rho q1 q2 q3 d w) st_u 21) : Nat × va_E) = ((d.1 20), .inr (5, [.ref (d.1 21)])) := rfl
theorem st_c22 {cy : Nat → ClassId} {q1 q2 q3 : Nat} {d w : (Nat → Nat) × (Nat → Nat)} : ((st_rho q1 q2 q3 d w 22, gCell cy (st_rho q1 q2 q3 d w) st_u 22) : Nat × va_E) = ((d.1 21), .inl (cy 24, 4, .inr (.inl (fun _ => 0)))) := rfl
theorem st_c23 {cy : Nat → ClassId} {q1 q2 q3 : Nat} {d w : (Nat → Nat) × (Nat → Nat)} : ((st_rho q1 q2 q3 d w 23, gCell cy (st_rho q1 q2 q3 d w) st_u 23) : Nat × va_E) = ((d.1 22), .inr (5, [.ref (d.1 23)])) := rfl
theorem st_c24 {cy : Nat → ClassId} {q1 q2 q3 : Nat} {d w : (Nat → Nat) × (Nat → Nat)} : ((st_rho q1 q2 q3 d w 24, gCell cy (st_rho q1 q2 q3 d w) st_u 24) : Nat × va_E) = ((d.1 23), .inl (cy 24, 4, .inr (.inl (fun _ => 0)))) := rfl
theorem st_c25 {cy : Nat → ClassId} {q1 q2 q3 : Nat} {d w : (Nat → Nat) × (Nat → Nat)} : ((st_rho q1 q2 q3 d w 25, gCell cy (st_rho q1 q2 q3 d w) st_u 25) : Nat × va_E) = ((d.1 24), .inr (5, [.ref (d.1 25)])) := rfl
theorem st_c26 {cy : Nat → ClassId} {q1 q2 q3 : Nat} {d w : (Nat → Nat) × (Nat → Nat)} : ((st_rho q1 q2 q3 d w 26, gCell cy (st_rho q1 q2 q3 d w) st_u 26) : Nat × va_E) = ((d.1 25), .inl (cy 24, 8, .inr (.inl (fun _ => 0)))) := rfl
theorem st_c27 {cy : Nat → ClassId} {q1 q2 q3 : Nat} {d w : (Nat → Nat) × (Nat → Nat)} : ((st_rho q1 q2 q3 d w 27, gCell cy (st_rho q1 q2 q3 d w) st_u 27) : Nat × va_E) = ((d.1 26), .inr (6, [.ref (d.1 27), .ref (d.1 28), .ref (d.1 29), .ref (d.1 30), .ref (d.1 31), .ref (d.1 32), .ref (d.1 33), .ref (d.1 34), .ref (d.1 35), .ref (d.1 36), .int 0, .int 0, .int 0, .int 0])) := rfl
theorem st_c28 {cy : Nat → ClassId} {q1 q2 q3 : Nat} {d w : (Nat → Nat) × (Nat → Nat)} : ((st_rho q1 q2 q3 d w 28, gCell cy (st_rho q1 q2 q3 d w) st_u 28) : Nat × va_E) = ((d.1 27), .inl (cy 22, 200, .inl (fun _ => 0))) := rfl
theorem st_c29 {cy : Nat → ClassId} {q1 q2 q3 : Nat} {d w : (Nat → Nat) × (Nat → Nat)} : ((st_rho q1 q2 q3 d w 29, gCell cy (st_rho q1 q2 q3 d w) st_u 29) : Nat × va_E) = ((d.1 28), .inl (cy 22, 200, .inl (fun _ => 0))) := rfl
theorem st_c30 {cy : Nat → ClassId} {q1 q2 q3 : Nat} {d w : (Nat → Nat) × (Nat → Nat)} : ((st_rho q1 q2 q3 d w 30, gCell cy (st_rho q1 q2 q3 d w) st_u 30) : Nat × va_E) = ((d.1 29), .inl (cy 22, 200, .inl (fun _ => 0))) := rfl
theorem st_c31 {cy : Nat → ClassId} {q1 q2 q3 : Nat} {d w : (Nat → Nat) × (Nat → Nat)} : ((st_rho q1 q2 q3 d w 31, gCell cy (st_rho q1 q2 q3 d w) st_u 31) : Nat × va_E) = ((d.1 30), .inl (cy 25, 800, .inr (.inr (.inr (.inr (fun i => if i < 800 then some (d.2 i) else none)))))) := by
  show ((_, Sum.inl (cy 25, 800, .inr (.inr (.inr (.inr (fun i => (gAR 31 i).map (st_rho q1 q2 q3 d w))))))) : Nat × va_E) = _
  rw [st_up]
  rfl
theorem st_c32 {cy : Nat → ClassId} {q1 q2 q3 : Nat} {d w : (Nat → Nat) × (Nat → Nat)} : ((st_rho q1 q2 q3 d w 32, gCell cy (st_rho q1 q2 q3 d w) st_u 32) : Nat × va_E) = ((d.1 31), .inl (cy 22, 800, .inl (fun _ => 0))) := rfl
theorem st_c33 {cy : Nat → ClassId} {q1 q2 q3 : Nat} {d w : (Nat → Nat) × (Nat → Nat)} : ((st_rho q1 q2 q3 d w 33, gCell cy (st_rho q1 q2 q3 d w) st_u 33) : Nat × va_E) = ((d.1 32), .inl (cy 22, 8, .inl (fun _ => 0))) := rfl
theorem st_c34 {cy : Nat → ClassId} {q1 q2 q3 : Nat} {d w : (Nat → Nat) × (Nat → Nat)} : ((st_rho q1 q2 q3 d w 34, gCell cy (st_rho q1 q2 q3 d w) st_u 34) : Nat × va_E) = ((d.1 33), .inl (cy 22, 200, .inl (fun _ => 0))) := rfl
theorem st_c35 {cy : Nat → ClassId} {q1 q2 q3 : Nat} {d w : (Nat → Nat) × (Nat → Nat)} : ((st_rho q1 q2 q3 d w 35, gCell cy (st_rho q1 q2 q3 d w) st_u 35) : Nat × va_E) = ((d.1 34), .inl (cy 22, 200, .inl (fun _ => 0))) := rfl
theorem st_c36 {cy : Nat → ClassId} {q1 q2 q3 : Nat} {d w : (Nat → Nat) × (Nat → Nat)} : ((st_rho q1 q2 q3 d w 36, gCell cy (st_rho q1 q2 q3 d w) st_u 36) : Nat × va_E) = ((d.1 35), .inl (cy 22, 8, .inl (fun _ => 0))) := rfl
theorem st_c37 {cy : Nat → ClassId} {q1 q2 q3 : Nat} {d w : (Nat → Nat) × (Nat → Nat)} : ((st_rho q1 q2 q3 d w 37, gCell cy (st_rho q1 q2 q3 d w) st_u 37) : Nat × va_E) = ((d.1 36), .inl (cy 22, 8, .inl (fun _ => 0))) := rfl
theorem st_c38 {cy : Nat → ClassId} {q1 q2 q3 : Nat} {d w : (Nat → Nat) × (Nat → Nat)} : ((st_rho q1 q2 q3 d w 38, gCell cy (st_rho q1 q2 q3 d w) st_u 38) : Nat × va_E) = ((d.1 37), .inr (7, [.ref (d.1 38), .ref (d.1 39), .ref (d.1 40), .int 0])) := rfl
theorem st_c39 {cy : Nat → ClassId} {q1 q2 q3 : Nat} {d w : (Nat → Nat) × (Nat → Nat)} : ((st_rho q1 q2 q3 d w 39, gCell cy (st_rho q1 q2 q3 d w) st_u 39) : Nat × va_E) = ((d.1 38), .inl (cy 21, 160, .inl (fun _ => 0))) := rfl
theorem st_c40 {cy : Nat → ClassId} {q1 q2 q3 : Nat} {d w : (Nat → Nat) × (Nat → Nat)} : ((st_rho q1 q2 q3 d w 40, gCell cy (st_rho q1 q2 q3 d w) st_u 40) : Nat × va_E) = ((d.1 39), .inl (cy 22, 8, .inl (fun _ => 0))) := rfl
theorem st_c41 {cy : Nat → ClassId} {q1 q2 q3 : Nat} {d w : (Nat → Nat) × (Nat → Nat)} : ((st_rho q1 q2 q3 d w 41, gCell cy (st_rho q1 q2 q3 d w) st_u 41) : Nat × va_E) = ((d.1 40), .inl (cy 22, 8, .inl (fun _ => 0))) := rfl
theorem st_c42 {cy : Nat → ClassId} {q1 q2 q3 : Nat} {d w : (Nat → Nat) × (Nat → Nat)} : ((st_rho q1 q2 q3 d w 42, gCell cy (st_rho q1 q2 q3 d w) st_u 42) : Nat × va_E) = (q2, .inr (8, [.ref (w.1 0), .int 0, .int 0, .int (-1), .ref (w.1 1), .ref (w.1 2), .ref (w.1 3), .int 0, .ref (w.1 4), .ref (w.1 5), .int 0, .int 0, .ref (w.1 6), .ref (w.1 7), .ref (w.1 8), .ref (w.1 9), .ref (w.1 10), .int 0, .int 0, .int 0, .ref (w.1 11), .int 0, .int 0, .int 0, .int 0, .int 0, .ref (w.1 12), .ref (w.1 13), .int 0, .ref (w.1 14), .ref (w.1 15), .int 0, .ref (w.1 16), .ref (w.1 17), .ref (w.1 18), .ref (w.1 19), .int 0, .ref (w.1 20), .ref (w.1 21), .int 0, .ref (w.1 22), .int 0])) := rfl
theorem st_c43 {cy : Nat → ClassId} {q1 q2 q3 : Nat} {d w : (Nat → Nat) × (Nat → Nat)} : ((st_rho q1 q2 q3 d w 43, gCell cy (st_rho q1 q2 q3 d w) st_u 43) : Nat × va_E) = ((w.1 0), .inl (cy 20, 40000, .inl (fun _ => 0))) := rfl
theorem st_c44 {cy : Nat → ClassId} {q1 q2 q3 : Nat} {d w : (Nat → Nat) × (Nat → Nat)} : ((st_rho q1 q2 q3 d w 44, gCell cy (st_rho q1 q2 q3 d w) st_u 44) : Nat × va_E) = ((w.1 1), .inl (cy 20, 3600, .inl (fun _ => 0))) := rfl
theorem st_c45 {cy : Nat → ClassId} {q1 q2 q3 : Nat} {d w : (Nat → Nat) × (Nat → Nat)} : ((st_rho q1 q2 q3 d w 45, gCell cy (st_rho q1 q2 q3 d w) st_u 45) : Nat × va_E) = ((w.1 2), .inl (cy 22, 300, .inl (fun _ => 0))) := rfl
theorem st_c46 {cy : Nat → ClassId} {q1 q2 q3 : Nat} {d w : (Nat → Nat) × (Nat → Nat)} : ((st_rho q1 q2 q3 d w 46, gCell cy (st_rho q1 q2 q3 d w) st_u 46) : Nat × va_E) = ((w.1 3), .inl (cy 22, 300, .inl (fun _ => 0))) := rfl
theorem st_c47 {cy : Nat → ClassId} {q1 q2 q3 : Nat} {d w : (Nat → Nat) × (Nat → Nat)} : ((st_rho q1 q2 q3 d w 47, gCell cy (st_rho q1 q2 q3 d w) st_u 47) : Nat × va_E) = ((w.1 4), .inl (cy 20, 2400, .inl (fun _ => 0))) := rfl
theorem st_c48 {cy : Nat → ClassId} {q1 q2 q3 : Nat} {d w : (Nat → Nat) × (Nat → Nat)} : ((st_rho q1 q2 q3 d w 48, gCell cy (st_rho q1 q2 q3 d w) st_u 48) : Nat × va_E) = ((w.1 5), .inl (cy 22, 200, .inl (fun _ => 0))) := rfl
theorem st_c49 {cy : Nat → ClassId} {q1 q2 q3 : Nat} {d w : (Nat → Nat) × (Nat → Nat)} : ((st_rho q1 q2 q3 d w 49, gCell cy (st_rho q1 q2 q3 d w) st_u 49) : Nat × va_E) = ((w.1 6), .inl (cy 22, 200, .inl (fun _ => 0))) := rfl
theorem st_c50 {cy : Nat → ClassId} {q1 q2 q3 : Nat} {d w : (Nat → Nat) × (Nat → Nat)} : ((st_rho q1 q2 q3 d w 50, gCell cy (st_rho q1 q2 q3 d w) st_u 50) : Nat × va_E) = ((w.1 7), .inl (cy 23, 40000, .inl (fun _ => 0))) := rfl
theorem st_c51 {cy : Nat → ClassId} {q1 q2 q3 : Nat} {d w : (Nat → Nat) × (Nat → Nat)} : ((st_rho q1 q2 q3 d w 51, gCell cy (st_rho q1 q2 q3 d w) st_u 51) : Nat × va_E) = ((w.1 8), .inl (cy 23, 40000, .inl (fun _ => 0))) := rfl
theorem st_c52 {cy : Nat → ClassId} {q1 q2 q3 : Nat} {d w : (Nat → Nat) × (Nat → Nat)} : ((st_rho q1 q2 q3 d w 52, gCell cy (st_rho q1 q2 q3 d w) st_u 52) : Nat × va_E) = ((w.1 9), .inl (cy 23, 40000, .inl (fun _ => 0))) := rfl
theorem st_c53 {cy : Nat → ClassId} {q1 q2 q3 : Nat} {d w : (Nat → Nat) × (Nat → Nat)} : ((st_rho q1 q2 q3 d w 53, gCell cy (st_rho q1 q2 q3 d w) st_u 53) : Nat × va_E) = ((w.1 10), .inl (cy 23, 40000, .inl (fun _ => 0))) := rfl
theorem st_c54 {cy : Nat → ClassId} {q1 q2 q3 : Nat} {d w : (Nat → Nat) × (Nat → Nat)} : ((st_rho q1 q2 q3 d w 54, gCell cy (st_rho q1 q2 q3 d w) st_u 54) : Nat × va_E) = ((w.1 11), .inl (cy 23, 200, .inl (fun _ => 0))) := rfl
theorem st_c55 {cy : Nat → ClassId} {q1 q2 q3 : Nat} {d w : (Nat → Nat) × (Nat → Nat)} : ((st_rho q1 q2 q3 d w 55, gCell cy (st_rho q1 q2 q3 d w) st_u 55) : Nat × va_E) = ((w.1 12), .inl (cy 22, 384, .inl (fun _ => 0))) := rfl
theorem st_c56 {cy : Nat → ClassId} {q1 q2 q3 : Nat} {d w : (Nat → Nat) × (Nat → Nat)} : ((st_rho q1 q2 q3 d w 56, gCell cy (st_rho q1 q2 q3 d w) st_u 56) : Nat × va_E) = ((w.1 13), .inl (cy 22, 8, .inl (fun _ => 0))) := rfl
theorem st_c57 {cy : Nat → ClassId} {q1 q2 q3 : Nat} {d w : (Nat → Nat) × (Nat → Nat)} : ((st_rho q1 q2 q3 d w 57, gCell cy (st_rho q1 q2 q3 d w) st_u 57) : Nat × va_E) = ((w.1 14), .inl (cy 22, 4000, .inl (fun _ => 0))) := rfl
theorem st_c58 {cy : Nat → ClassId} {q1 q2 q3 : Nat} {d w : (Nat → Nat) × (Nat → Nat)} : ((st_rho q1 q2 q3 d w 58, gCell cy (st_rho q1 q2 q3 d w) st_u 58) : Nat × va_E) = ((w.1 15), .inl (cy 22, 200, .inl (fun _ => 0))) := rfl
theorem st_c59 {cy : Nat → ClassId} {q1 q2 q3 : Nat} {d w : (Nat → Nat) × (Nat → Nat)} : ((st_rho q1 q2 q3 d w 59, gCell cy (st_rho q1 q2 q3 d w) st_u 59) : Nat × va_E) = ((w.1 16), .inl (cy 22, 16000, .inl (fun _ => 0))) := rfl
theorem st_c60 {cy : Nat → ClassId} {q1 q2 q3 : Nat} {d w : (Nat → Nat) × (Nat → Nat)} : ((st_rho q1 q2 q3 d w 60, gCell cy (st_rho q1 q2 q3 d w) st_u 60) : Nat × va_E) = ((w.1 17), .inl (cy 22, 800, .inl (fun _ => 0))) := rfl
theorem st_c61 {cy : Nat → ClassId} {q1 q2 q3 : Nat} {d w : (Nat → Nat) × (Nat → Nat)} : ((st_rho q1 q2 q3 d w 61, gCell cy (st_rho q1 q2 q3 d w) st_u 61) : Nat × va_E) = ((w.1 18), .inl (cy 22, 200, .inl (fun _ => 0))) := rfl
theorem st_c62 {cy : Nat → ClassId} {q1 q2 q3 : Nat} {d w : (Nat → Nat) × (Nat → Nat)} : ((st_rho q1 q2 q3 d w 62, gCell cy (st_rho q1 q2 q3 d w) st_u 62) : Nat × va_E) = ((w.1 19), .inl (cy 22, 1000, .inl (fun _ => 0))) := rfl
theorem st_c63 {cy : Nat → ClassId} {q1 q2 q3 : Nat} {d w : (Nat → Nat) × (Nat → Nat)} : ((st_rho q1 q2 q3 d w 63, gCell cy (st_rho q1 q2 q3 d w) st_u 63) : Nat × va_E) = ((w.1 20), .inl (cy 22, 20, .inl (fun _ => 0))) := rfl
theorem st_c64 {cy : Nat → ClassId} {q1 q2 q3 : Nat} {d w : (Nat → Nat) × (Nat → Nat)} : ((st_rho q1 q2 q3 d w 64, gCell cy (st_rho q1 q2 q3 d w) st_u 64) : Nat × va_E) = ((w.1 21), .inl (cy 22, 400, .inl (fun _ => 0))) := rfl
theorem st_c65 {cy : Nat → ClassId} {q1 q2 q3 : Nat} {d w : (Nat → Nat) × (Nat → Nat)} : ((st_rho q1 q2 q3 d w 65, gCell cy (st_rho q1 q2 q3 d w) st_u 65) : Nat × va_E) = ((w.1 22), .inl (cy 22, 200, .inl (fun _ => 0))) := rfl
theorem st_c66 {cy : Nat → ClassId} {q1 q2 q3 : Nat} {d w : (Nat → Nat) × (Nat → Nat)} : ((st_rho q1 q2 q3 d w 66, gCell cy (st_rho q1 q2 q3 d w) st_u 66) : Nat × va_E) = (q3, .inl (cy 24, 1, .inr (.inl (fun _ => 0)))) := rfl
theorem st_row {cy : Nat → ClassId} {q1 q2 q3 : Nat} {d w : (Nat → Nat) × (Nat → Nat)} {i : Nat} (hi : i < 800) : ((st_rho q1 q2 q3 d w (67 + i), gCell cy (st_rho q1 q2 q3 d w) st_u (67 + i)) : Nat × va_E) = (d.2 i, .inl (cy 22, 8, .inl (fun _ => 0))) := by
  have e1 : gK (67 + i) = 22 := by
    unfold gK
    rw [if_neg (by omega), if_pos (by omega)]
  have e2 : gLen (67 + i) = 8 := by
    unfold gLen
    rw [if_neg (by omega)]
  have e3 : st_rho q1 q2 q3 d w (67 + i) = d.2 i := by
    unfold st_rho
    rw [if_neg (by omega), if_neg (by omega), if_neg (by omega), if_neg (by omega), if_neg (by omega), show 67 + i - 67 = i by omega]
  unfold gCell
  rw [e1, e2, e3]
  rfl
theorem st_gW {cy : Nat → ClassId} {q1 q2 q3 : Nat} {d w : (Nat → Nat) × (Nat → Nat)} : gW cy (st_rho q1 q2 q3 d w) st_u = (st_desk cy q1 d ++ (st_model cy q2 w ++ st_out cy q3)) ++ gRows cy d.2 := by
  unfold gW
  rw [show gN = 67 + 800 from rfl, List.range_add, List.map_append]
  have e9 : ∀ {x y z t : va_W}, x = z → y = t → x ++ y = z ++ t := fun h1 h2 => by rw [h1, h2]
  refine e9 ?_ ?_
  · rw [show List.range 67 = [0, 1, 2, 3, 4, 5, 6, 7, 8, 9, 10, 11, 12, 13, 14, 15, 16, 17, 18, 19, 20, 21, 22, 23, 24, 25, 26, 27, 28, 29, 30, 31, 32, 33, 34, 35, 36, 37, 38, 39, 40, 41, 42, 43, 44, 45, 46, 47, 48, 49, 50, 51, 52, 53, 54, 55, 56, 57, 58, 59, 60, 61, 62, 63, 64, 65, 66] by decide]
    simp only [List.map_cons, List.map_nil, st_c0, st_c1, st_c2, st_c3, st_c4, st_c5, st_c6, st_c7, st_c8, st_c9, st_c10, st_c11, st_c12, st_c13, st_c14, st_c15, st_c16, st_c17, st_c18, st_c19, st_c20, st_c21, st_c22, st_c23, st_c24, st_c25, st_c26, st_c27, st_c28, st_c29, st_c30, st_c31, st_c32, st_c33, st_c34, st_c35, st_c36, st_c37, st_c38, st_c39, st_c40, st_c41, st_c42, st_c43, st_c44, st_c45, st_c46, st_c47, st_c48, st_c49, st_c50, st_c51, st_c52, st_c53, st_c54, st_c55, st_c56, st_c57, st_c58, st_c59, st_c60, st_c61, st_c62, st_c63, st_c64, st_c65, st_c66]
    rfl
  · rw [List.map_map]
    unfold gRows
    refine List.map_congr_left (fun i hi => ?_)
    exact st_row (List.mem_range.mp hi)
theorem st_gD {cy : Nat → ClassId} {ρ : Nat → Nat} {u : gSt} {A : Nat → Prop} (h : va_D A (gW cy ρ u)) : gD ρ A := by
  have hg : ∀ i, i < gN → (gW cy ρ u)[i]? = some (ρ i, gCell cy ρ u i) := fun i hi => by
    unfold gW
    rw [List.getElem?_map, List.getElem?_range hi]
    rfl
  exact ⟨fun i j hi hj e => h.1 i j _ _ (hg i hi) (hg j hj) e, fun i hi => h.2 i _ (hg i hi)⟩
set_option maxRecDepth 100000 in
set_option maxHeartbeats 4000000 in
theorem st_walk {p : Program} {l : Launch} {e : Env} {s : State} {m : MethodId} {below : List Frame} {meth : Method} {c : Code} (hfl : l.stackTraces = false) {b L : Nat} {xs : Nat → Int32} (hL : L ≤ 3072) (Inv : gSt → Prop) (h0 : Inv st_u) (hstep : ∀ (j : Nat) (u : gSt), 6 * j + 6 ≤ L → Inv u → ∃ u', M_Law_it L xs (nI (6 * j)) u = some u' ∧ Inv u') (C0 : lw_At p s m meth c b L xs) : W p l e room_1 s m #[Value.ref b] below meth c s.heap [] 0 0 (lw_Z below #[Value.ref b] s) (entryFrame m ([Value.ref b] : List Value).toArray 7) := by
  obtain ⟨hx, hb, hr, hml, hown, hts, hX, hbl, hlk, hgn⟩ := C0
  have hfl9 : ∀ w ∈ st_fl, w.before #[Value.ref b] s = true := flat_of_before _ hgn
  have hA0 : ∀ a : Nat, a < s.heap.size → ¬ s.heap.size ≤ a := fun a h1 h2 => absurd h1 (Nat.not_lt.mpr h2)
  obtain ⟨K, X3⟩ := st_X3 (A := fun q => s.heap.size ≤ q) hts hfl9 hA0
  have X2 := st_X2 (A := fun q => s.heap.size ≤ q) hts hfl9 hA0
  obtain ⟨cy, D, hK, hAO⟩ := st_K hts
  have hg : ∀ w ∈ gWs, w.before #[Value.ref b] s = true := fun w hw => hts w (List.mem_filter.mp hw).1
  have hns : ∀ w ∈ gNs, va_Nw w s := fun w hw => va_Nw.of (gNest_tab (gNs_nest hw)) (hts w (List.mem_filter.mp hw).1)
  have C : gXn "TermDeskLaw" code 7 cy D (fun q => s.heap.size ≤ q) p s m #[Value.ref b] meth c := ⟨hx, hb, hml, hown, hg, hns, hK, fun q h => h, hAO⟩
  have hl := lv_entry [Value.ref b] (n := 7) (Nat.le_of_ble_eq_true rfl)
  rw [lg_entry_eq]
  generalize (lg_sl [Value.ref b] ++ List.replicate (7 - (lg_sl [Value.ref b]).length) Slot.unset).toArray = ls at hl ⊢
  have hl : lv_has ls 7 [(0, .ref b)] := hl
  have hS : va_S (fun q => s.heap.size ≤ q) s.heap s.heap [] := va_S.rf
  have hP : va_P D gCl ([] ++ []) s.heap := fun k q hk => by cases k <;> cases hk
  have hD : va_D (fun q => s.heap.size ≤ q) ([] ++ []) := ⟨fun i j p q hi => (by cases i <;> cases hi), fun k q hk => (by cases k <;> cases hk)⟩
  refine g_newO (X := []) (Y := []) (ci := 0) (fs := [.null, .null, .null, .null, .null, .int 0, .int 0, .int 0]) C hP hD hS gin0 gty0 (by decide +kernel) (by decide +kernel) (by decide +kernel) rfl (by decide) (Nat.le_of_ble_eq_true rfl) (Nat.le_of_ble_eq_true rfl) d_law_0 (fun q1 H hP hD hS => ?_)
  refine lv_dup hx hb d_law_3 rfl ?_
  refine g_callN (X := [(q1, .inr (0, [.null, .null, .null, .null, .null, .int 0, .int 0, .int 0]))]) (Y := []) (k := 0) (As := []) C hP hD hS (List.Perm.refl _) (i_Desk (Y := [])) (by decide +kernel) (by decide +kernel) (by decide +kernel) ⟨by decide +kernel, by decide +kernel, by decide +kernel⟩ rfl (Or.inl (by decide +kernel)) rfl (Nat.le_of_ble_eq_true rfl) (Nat.le_of_ble_eq_true rfl) hl.1 rfl (Nat.le_of_ble_eq_true rfl) d_law_4 ⟨Nat.le_of_ble_eq_true rfl, Nat.le_of_ble_eq_true rfl⟩ (fun d H locs hP hD hS => ?_)
  have hP : va_P D gCl ([] ++ (st_desk cy q1 d ++ ([] ++ gRows cy d.2))) H := hP
  have hD : va_D (fun q => s.heap.size ≤ q) ([] ++ (st_desk cy q1 d ++ ([] ++ gRows cy d.2))) := hD
  refine lv_astore_n (i := 1) (x := q1) (lv' := [(1, .ref q1), (0, .ref b)]) hx hb d_law_7 rfl hl (by decide) rfl (fun ls hl => ?_)
  refine g_newO (X := []) (Y := st_desk cy q1 d ++ ([] ++ gRows cy d.2)) (ci := 8) (fs := [.null, .int 0, .int 0, .int 0, .null, .null, .null, .int 0, .null, .null, .int 0, .int 0, .null, .null, .null, .null, .null, .int 0, .int 0, .int 0, .null, .int 0, .int 0, .int 0, .int 0, .int 0, .null, .null, .int 0, .null, .null, .int 0, .null, .null, .null, .null, .int 0, .null, .null, .int 0, .null, .int 0]) C hP hD hS gin8 gty8 (by decide +kernel) (by decide +kernel) (by decide +kernel) rfl (by decide) (Nat.le_of_ble_eq_true rfl) (Nat.le_of_ble_eq_true rfl) d_law_8 (fun q2 H hP hD hS => ?_)
  refine lv_dup hx hb d_law_11 rfl ?_
  refine g_callN (X := [(q2, .inr (8, [.null, .int 0, .int 0, .int 0, .null, .null, .null, .int 0, .null, .null, .int 0, .int 0, .null, .null, .null, .null, .null, .int 0, .int 0, .int 0, .null, .int 0, .int 0, .int 0, .int 0, .int 0, .null, .null, .int 0, .null, .null, .int 0, .null, .null, .null, .null, .int 0, .null, .null, .int 0, .null, .int 0]))]) (Y := st_desk cy q1 d ++ ([] ++ gRows cy d.2)) (k := 0) (As := []) C hP hD hS (List.Perm.refl _) (i_Model (Y := st_desk cy q1 d ++ ([] ++ gRows cy d.2))) (by decide +kernel) (by decide +kernel) (by decide +kernel) ⟨by decide +kernel, by decide +kernel, by decide +kernel⟩ rfl (Or.inl (by decide +kernel)) rfl (Nat.le_of_ble_eq_true rfl) (Nat.le_of_ble_eq_true rfl) hl.1 rfl (Nat.le_of_ble_eq_true rfl) d_law_12 ⟨Nat.le_of_ble_eq_true rfl, Nat.le_of_ble_eq_true rfl⟩ (fun w H locs hP hD hS => ?_)
  have hP : va_P D gCl ([] ++ (st_model cy q2 w ++ (st_desk cy q1 d ++ ([] ++ gRows cy d.2)))) H := hP
  have hD : va_D (fun q => s.heap.size ≤ q) ([] ++ (st_model cy q2 w ++ (st_desk cy q1 d ++ ([] ++ gRows cy d.2)))) := hD
  refine lv_astore_n (i := 2) (x := q2) (lv' := [(2, .ref q2), (1, .ref q1), (0, .ref b)]) hx hb d_law_15 rfl hl (by decide) rfl (fun ls hl => ?_)
  refine lv_iconst (v := 1) hx hb d_law_16 (by decide) ?_
  refine g_newA (X := []) (Y := st_model cy q2 w ++ (st_desk cy q1 d ++ ([] ++ gRows cy d.2))) (ty := .long) (ki := 24) (k0 := 4) (N' := 1) (a0 := (1, .inr (.inl (fun _ => 0)))) C hP hD hS (by decide +kernel) rfl rfl (fun U cA => Iff.rfl) (fun cA => rfl) (by decide) (by decide) (by decide) (Nat.le_of_ble_eq_true rfl) (Nat.le_of_ble_eq_true rfl) d_law_17 (fun q3 H hP hD hS => ?_)
  have hp : List.Perm ((([] ++ st_out cy q3) ++ (st_model cy q2 w ++ (st_desk cy q1 d ++ ([] ++ gRows cy d.2)))) : va_W) (gW cy (st_rho q1 q2 q3 d w) st_u) := by
    rw [st_gW, List.nil_append, List.nil_append]
    show (st_out cy q3 ++ (st_model cy q2 w ++ (st_desk cy q1 d ++ gRows cy d.2))).Perm _
    rw [← List.append_assoc, ← List.append_assoc]
    refine List.Perm.append_right _ ?_
    refine List.perm_append_comm.trans ?_
    exact List.Perm.append_left _ List.perm_append_comm
  replace hP := gPP hp hP
  replace hD := gPD hp hD
  have hgD := st_gD hD
  refine lv_astore_n (i := 3) (x := q3) (lv' := [(3, .ref q3), (2, .ref q2), (1, .ref q1), (0, .ref b)]) hx hb d_law_19 rfl hl (by decide) rfl (fun ls hl => ?_)
  refine lv_iconst (v := 0) hx hb d_law_20 (by decide) ?_
  refine lv_istore (lv' := [(4, .int 0), (3, .ref q3), (2, .ref q2), (1, .ref q1), (0, .ref b)]) hx hb d_law_21 hl (by decide) rfl (fun ls hl => ?_)
  have CX : gX "TermDeskLaw" code 7 ret 12 428 room_1 0 0 cy D (st_rho q1 q2 q3 d w) (fun q => s.heap.size ≤ q) p s m #[Value.ref b] meth c := ⟨hx, hb, hml, hr, hown, hg, hns, hK, hgD, ⟨by decide, by decide, by decide, by decide⟩, hlk⟩
  exact law_loop CX X2 X3 hfl hX hbl hL Inv hstep (L / 6) 0 _ _ st_u (by omega) (by omega) (by omega) (by omega) h0 ls H _ (lv_sub hl [4, 3, 2, 1, 0] rfl) hP hS
