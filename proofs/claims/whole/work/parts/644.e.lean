/-! bitCount: the result. -/
theorem lb_N {n j : Nat} (hj : j < 64) : lb (lN n) j = n.testBit j := by
  unfold lb
  rw [wb_tb, BitVec.getLsbD_ofNat]
  simp [hj]
theorem p_bitCount {y : Int64} {u : gSt} : M_Long_bitCount y u = some (nI (cnt (lb y) 64), u) := by
  obtain ⟨n, hn, rfl⟩ := wb_of y
  obtain ⟨s1, s2⟩ := st1 32 n (by omega)
  have c1 : (6148914691236517205 : Int64) = lN (m1 32) := by decide +kernel
  have c2 : (3689348814741910323 : Int64) = lN (m2 16) := by decide +kernel
  have c3 : (1085102592571150095 : Int64) = lN (m3 8) := by decide +kernel
  have b1 : m1 32 < 2 ^ 64 := by decide +kernel
  have b2 : m2 16 < 2 ^ 64 := by decide +kernel
  have b3 : m3 8 < 2 ^ 64 := by decide +kernel
  have e1 : ((lN n).toUInt64 >>> ((1 : Int32).toInt64.toUInt64 &&& Int64.toUInt64 63)).toInt64 = lN (n / 2) := wb_shr (k := 1) hn (by decide)
  unfold M_Long_bitCount
  rw [e1, c1, wb_and (by omega) b1, ql_sub s2, s1]
  have hy1 : f1 32 n < 2 ^ 64 := by omega
  have s3 := st2 16 (f1 32 n) (by omega)
  have e2 : ((lN (f1 32 n)).toUInt64 >>> ((2 : Int32).toInt64.toUInt64 &&& Int64.toUInt64 63)).toInt64 = lN (f1 32 n / 4) := wb_shr (k := 2) hy1 (by decide)
  rw [e2, c2, wb_and hy1 b2, wb_and (by omega) b2, ql_add, s3]
  have hz : f2 16 (f1 32 n) = hb 8 n := rfl
  rw [hz]
  have hnb := hb_nb 8 n
  have hlt := nb_lt 8 _ hnb
  have s4 := st3 8 _ hnb
  have e3 : ((lN (hb 8 n)).toUInt64 >>> ((4 : Int32).toInt64.toUInt64 &&& Int64.toUInt64 63)).toInt64 = lN (hb 8 n / 16) := wb_shr (k := 4) (by omega) (by decide)
  rw [e3, ql_add, c3, wb_and (by omega) b3, s4]
  have z2 := bc_f3 n
  have z0 := f3_hl 8 _ hnb
  have z1 : f3 8 (hb 8 n) < 2 ^ 61 := by omega
  generalize f3 8 (hb 8 n) = Z at z1 z2 ⊢
  have e4 : ((lN Z).toUInt64 >>> ((8 : Int32).toInt64.toUInt64 &&& Int64.toUInt64 63)).toInt64 = lN (Z / 2 ^ 8) := wb_shr (k := 8) (by omega) (by decide)
  rw [e4, ql_add]
  have e5 : ((lN (Z + Z / 2 ^ 8)).toUInt64 >>> ((16 : Int32).toInt64.toUInt64 &&& Int64.toUInt64 63)).toInt64 = lN ((Z + Z / 2 ^ 8) / 2 ^ 16) := wb_shr (k := 16) (by omega) (by decide)
  rw [e5, ql_add]
  have e6 : ((lN (Z + Z / 2 ^ 8 + (Z + Z / 2 ^ 8) / 2 ^ 16)).toUInt64 >>> ((32 : Int32).toInt64.toUInt64 &&& Int64.toUInt64 63)).toInt64 = lN ((Z + Z / 2 ^ 8 + (Z + Z / 2 ^ 8) / 2 ^ 16) / 2 ^ 32) := wb_shr (k := 32) (by omega) (by decide)
  rw [e6, ql_add, ql_i, show (127 : Int32) = nI (2 ^ 7 - 1) from rfl, nx_and, Nat.and_two_pow_sub_one_eq_mod]
  show some (nI (_ % 128), u) = _
  rw [z2, pcn_cnt, cnt_congr 64 (fun j hj => (lb_N (n := n) hj).symm)]
