/-! HOW MANY BITS A LONG HAS, 2: the method -/
theorem l_ushr {a : Nat} (ha : a < 2 ^ 63) (s : UInt64) (k : Nat) (hs : (s.toBitVec % 64).toNat = k) : ((lN a).toUInt64 >>> s).toInt64 = lN (a / 2 ^ k) := by
  apply Int64.toBitVec_inj.1
  apply BitVec.eq_of_toNat_eq
  have e : ((lN a).toUInt64 >>> s).toInt64.toBitVec = (lN a).toBitVec >>> k := by
    rw [← hs]
    exact UInt64.toBitVec_shiftRight _ _
  have h2 : a / 2 ^ k ≤ a := Nat.div_le_self _ _
  rw [e, BitVec.toNat_ushiftRight, Nat.shiftRight_eq_div_pow]
  show (BitVec.ofNat 64 a).toNat / 2 ^ k = (BitVec.ofNat 64 (a / 2 ^ k)).toNat
  rw [BitVec.toNat_ofNat, BitVec.toNat_ofNat, Nat.mod_eq_of_lt (by omega), Nat.mod_eq_of_lt (by omega)]
def F1 (x : Int64) : Int64 := x - ((Int64.toUInt64 x >>> ((Int32.toInt64 1).toUInt64 &&& Int64.toUInt64 63)).toInt64 &&& 6148914691236517205)
def F2 (x : Int64) : Int64 := (x &&& 3689348814741910323) + ((Int64.toUInt64 x >>> ((Int32.toInt64 2).toUInt64 &&& Int64.toUInt64 63)).toInt64 &&& 3689348814741910323)
def F4 (x : Int64) : Int64 := (x + (Int64.toUInt64 x >>> ((Int32.toInt64 4).toUInt64 &&& Int64.toUInt64 63)).toInt64) &&& 1085102592571150095
def F8 (x : Int64) : Int64 := x + (Int64.toUInt64 x >>> ((Int32.toInt64 8).toUInt64 &&& Int64.toUInt64 63)).toInt64
def F16 (x : Int64) : Int64 := x + (Int64.toUInt64 x >>> ((Int32.toInt64 16).toUInt64 &&& Int64.toUInt64 63)).toInt64
def F32 (x : Int64) : Int64 := x + (Int64.toUInt64 x >>> ((Int32.toInt64 32).toUInt64 &&& Int64.toUInt64 63)).toInt64
theorem cnt_F (x : Int64) : f_J13_bitCount_95d88 x = some ((Int64.toInt32 (F32 (F16 (F8 (F4 (F2 (F1 x))))))) &&& 127) := rfl
theorem F1_eq {a : Nat} (ha : a < 2 ^ 63) : F1 (lN a) = lN (s1 8 a) := by
  unfold F1 s1
  have h1 : a / 2 &&& rep 85 8 ≤ a := Nat.le_trans Nat.and_le_left (by omega)
  rw [l_ushr ha _ 1 (by decide), Nat.pow_one, show (6148914691236517205 : Int64) = lN (rep 85 8) from rfl, l_and, lN_sub h1]
theorem F2_eq {a : Nat} (ha : a < 2 ^ 63) : F2 (lN a) = lN (s2 8 a) := by
  unfold F2 s2
  rw [l_ushr ha _ 2 (by decide), show (3689348814741910323 : Int64) = lN (rep 51 8) from rfl, l_and, l_and, lN_add]
theorem F4_eq {a : Nat} (ha : a < 2 ^ 63) : F4 (lN a) = lN (s4 8 a) := by
  unfold F4 s4
  rw [l_ushr ha _ 4 (by decide), show (1085102592571150095 : Int64) = lN (rep 15 8) from rfl, lN_add, l_and]
theorem F8_eq {a : Nat} (ha : a < 2 ^ 63) : F8 (lN a) = lN (a + a / 256) := by
  unfold F8
  rw [l_ushr ha _ 8 (by decide), lN_add]
theorem F16_eq {a : Nat} (ha : a < 2 ^ 63) : F16 (lN a) = lN (a + a / 65536) := by
  unfold F16
  rw [l_ushr ha _ 16 (by decide), lN_add]
theorem F32_eq {a : Nat} (ha : a < 2 ^ 63) : F32 (lN a) = lN (a + a / 4294967296) := by
  unfold F32
  rw [l_ushr ha _ 32 (by decide), lN_add]
def pb (x : Nat) : Nat := bN x 0 + bN x 1 + bN x 2 + bN x 3 + bN x 4 + bN x 5 + bN x 6 + bN x 7
theorem pb_le (x : Nat) : pb x ≤ 8 := by
  unfold pb
  have h0 := bN_le x 0
  have h1 := bN_le x 1
  have h2 := bN_le x 2
  have h3 := bN_le x 3
  have h4 := bN_le x 4
  have h5 := bN_le x 5
  have h6 := bN_le x 6
  have h7 := bN_le x 7
  omega
theorem bc_s (n x : Nat) : bc (n + 1) x = pb (x % 256) + 256 * bc n (x / 256) := rfl
theorem cnt_eq {M : Nat} (hM : M < 2 ^ 49) : f_J13_bitCount_95d88 (lN M) = some (nI (pb (M % 256) + pb (M / 256 % 256) + pb (M / 256 / 256 % 256) + pb (M / 256 / 256 / 256 % 256) + pb (M / 256 / 256 / 256 / 256 % 256) + pb (M / 256 / 256 / 256 / 256 / 256 % 256) + pb (M / 256 / 256 / 256 / 256 / 256 / 256 % 256))) := by
  have k1 : s1 8 M ≤ M := Nat.sub_le _ _
  have k2 : s2 8 (s1 8 M) ≤ 2 * s1 8 M := by
    unfold s2
    have h1 : s1 8 M &&& rep 51 8 ≤ s1 8 M := Nat.and_le_left
    have h2 : s1 8 M / 4 &&& rep 51 8 ≤ s1 8 M / 4 := Nat.and_le_left
    omega
  have h7 : bc 8 M = pb (M % 256) + 256 * (pb (M / 256 % 256) + 256 * (pb (M / 256 / 256 % 256) + 256 * (pb (M / 256 / 256 / 256 % 256) + 256 * (pb (M / 256 / 256 / 256 / 256 % 256) + 256 * (pb (M / 256 / 256 / 256 / 256 / 256 % 256) + 256 * (pb (M / 256 / 256 / 256 / 256 / 256 / 256 % 256) + 256 * bc 1 (M / 256 / 256 / 256 / 256 / 256 / 256 / 256))))))) := rfl
  have h8 : bc 1 (M / 256 / 256 / 256 / 256 / 256 / 256 / 256) = 0 := by
    rw [show M / 256 / 256 / 256 / 256 / 256 / 256 / 256 = 0 by omega]
    rfl
  rw [h8] at h7
  have e := (bc_eq 8 M).1
  have p0 := pb_le (M % 256)
  have p1 := pb_le (M / 256 % 256)
  have p2 := pb_le (M / 256 / 256 % 256)
  have p3 := pb_le (M / 256 / 256 / 256 % 256)
  have p4 := pb_le (M / 256 / 256 / 256 / 256 % 256)
  have p5 := pb_le (M / 256 / 256 / 256 / 256 / 256 % 256)
  have p6 := pb_le (M / 256 / 256 / 256 / 256 / 256 / 256 % 256)
  rw [cnt_F, F1_eq (by omega), F2_eq (by omega), F4_eq (by omega), e, h7]
  generalize pb (M % 256) = c0 at *
  generalize pb (M / 256 % 256) = c1 at *
  generalize pb (M / 256 / 256 % 256) = c2 at *
  generalize pb (M / 256 / 256 / 256 % 256) = c3 at *
  generalize pb (M / 256 / 256 / 256 / 256 % 256) = c4 at *
  generalize pb (M / 256 / 256 / 256 / 256 / 256 % 256) = c5 at *
  generalize pb (M / 256 / 256 / 256 / 256 / 256 / 256 % 256) = c6 at *
  clear k1 k2 h7 h8 e hM
  rw [F8_eq (by omega), F16_eq (by omega), F32_eq (by omega), lN_i, show (127 : Int32) = nI 127 from rfl, n_and, show (127 : Nat) = 2 ^ 7 - 1 from rfl, Nat.and_two_pow_sub_one_eq_mod]
  have hv : c0 + 256 * (c1 + 256 * (c2 + 256 * (c3 + 256 * (c4 + 256 * (c5 + 256 * (c6 + 256 * 0)))))) = c0 + 256 * c1 + 65536 * c2 + 16777216 * c3 + 4294967296 * c4 + 1099511627776 * c5 + 281474976710656 * c6 := by omega
  rw [hv]
  have d1 : (c0 + 256 * c1 + 65536 * c2 + 16777216 * c3 + 4294967296 * c4 + 1099511627776 * c5 + 281474976710656 * c6) / 256 = c1 + 256 * c2 + 65536 * c3 + 16777216 * c4 + 4294967296 * c5 + 1099511627776 * c6 := by omega
  rw [d1]
  have d2 : (c0 + 256 * c1 + 65536 * c2 + 16777216 * c3 + 4294967296 * c4 + 1099511627776 * c5 + 281474976710656 * c6 + (c1 + 256 * c2 + 65536 * c3 + 16777216 * c4 + 4294967296 * c5 + 1099511627776 * c6)) / 65536 = (c2 + c3) + 256 * (c3 + c4) + 65536 * (c4 + c5) + 16777216 * (c5 + c6) + 4294967296 * c6 := by omega
  rw [d2]
  have d3 : (c0 + 256 * c1 + 65536 * c2 + 16777216 * c3 + 4294967296 * c4 + 1099511627776 * c5 + 281474976710656 * c6 + (c1 + 256 * c2 + 65536 * c3 + 16777216 * c4 + 4294967296 * c5 + 1099511627776 * c6) + ((c2 + c3) + 256 * (c3 + c4) + 65536 * (c4 + c5) + 16777216 * (c5 + c6) + 4294967296 * c6)) / 4294967296 = (c4 + c5 + c6) + 256 * (c5 + c6) + 65536 * c6 := by omega
  rw [d3]
  congr 2
  omega
