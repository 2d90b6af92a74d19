theorem l2i (n : Nat) : Int64.toInt32 (lN n) = nI n := by
  apply Int32.toBitVec_inj.mp
  show (BitVec.ofNat 64 n).signExtend 32 = BitVec.ofNat 32 n
  apply BitVec.eq_of_toNat_eq
  rw [BitVec.signExtend_eq_setWidth_of_le _ (by decide), BitVec.toNat_setWidth, BitVec.toNat_ofNat, BitVec.toNat_ofNat]
  omega
theorem c_bitCountL (F x : Nat) (hx : x < 2 ^ 56) (σ : xSt) : mJ13_bitCount_95d88 F (lN x) σ = some (nI (pc x 64), σ) := by
  have b1' : s1 8 x ≤ x := Nat.sub_le _ _
  have d2 : s1 8 x &&& rp 51 8 ≤ s1 8 x := Nat.and_le_left
  have d3 : (s1 8 x >>> 2) &&& rp 51 8 ≤ s1 8 x >>> 2 := Nat.and_le_left
  have d4 : s1 8 x >>> 2 ≤ s1 8 x := by rw [Nat.shiftRight_eq_div_pow]; exact Nat.div_le_self _ _
  have b2' : s2 8 x ≤ 2 * x := by unfold s2; omega
  have d5 : s2 8 x >>> 4 ≤ s2 8 x := by rw [Nat.shiftRight_eq_div_pow]; exact Nat.div_le_self _ _
  have b3' : s3 8 x ≤ 4 * x := by
    have : s3 8 x ≤ s2 8 x + (s2 8 x >>> 4) := Nat.and_le_left
    omega
  have d6 : s3 8 x >>> 8 ≤ s3 8 x := by rw [Nat.shiftRight_eq_div_pow]; exact Nat.div_le_self _ _
  have b4' : s4 x ≤ 8 * x := by unfold s4; omega
  have d7 : s4 x >>> 16 ≤ s4 x := by rw [Nat.shiftRight_eq_div_pow]; exact Nat.div_le_self _ _
  have b5' : s5 x ≤ 16 * x := by unfold s5; omega
  have k1 : (Int64.toUInt64 (lN x) >>> (Int64.toUInt64 (Int32.toInt64 1) &&& Int64.toUInt64 63)).toInt64 = lN (x >>> 1) := lush x 1 (by omega) (by omega)
  have t1 : lN x - (lN (x >>> 1) &&& (6148914691236517205 : Int64)) = lN (s1 8 x) := by
    rw [show (6148914691236517205 : Int64) = lN (rp 85 8) from rfl, fb_andL]; exact l_sub (s1_le 8 x)
  have k2 : (Int64.toUInt64 (lN (s1 8 x)) >>> (Int64.toUInt64 (Int32.toInt64 2) &&& Int64.toUInt64 63)).toInt64 = lN (s1 8 x >>> 2) := lush _ 2 (by omega) (by omega)
  have t2 : (lN (s1 8 x) &&& (3689348814741910323 : Int64)) + (lN (s1 8 x >>> 2) &&& (3689348814741910323 : Int64)) = lN (s2 8 x) := by
    rw [show (3689348814741910323 : Int64) = lN (rp 51 8) from rfl, fb_andL, fb_andL, l_add]; rfl
  have k3 : (Int64.toUInt64 (lN (s2 8 x)) >>> (Int64.toUInt64 (Int32.toInt64 4) &&& Int64.toUInt64 63)).toInt64 = lN (s2 8 x >>> 4) := lush _ 4 (by omega) (by omega)
  have t3 : (lN (s2 8 x) + lN (s2 8 x >>> 4)) &&& (1085102592571150095 : Int64) = lN (s3 8 x) := by
    rw [show (1085102592571150095 : Int64) = lN (rp 15 8) from rfl, l_add, fb_andL]; rfl
  have k4 : (Int64.toUInt64 (lN (s3 8 x)) >>> (Int64.toUInt64 (Int32.toInt64 8) &&& Int64.toUInt64 63)).toInt64 = lN (s3 8 x >>> 8) := lush _ 8 (by omega) (by omega)
  have t4 : lN (s3 8 x) + lN (s3 8 x >>> 8) = lN (s4 x) := l_add
  have k5 : (Int64.toUInt64 (lN (s4 x)) >>> (Int64.toUInt64 (Int32.toInt64 16) &&& Int64.toUInt64 63)).toInt64 = lN (s4 x >>> 16) := lush _ 16 (by omega) (by omega)
  have t5 : lN (s4 x) + lN (s4 x >>> 16) = lN (s5 x) := l_add
  have k6 : (Int64.toUInt64 (lN (s5 x)) >>> (Int64.toUInt64 (Int32.toInt64 32) &&& Int64.toUInt64 63)).toInt64 = lN (s5 x >>> 32) := lush _ 32 (by omega) (by omega)
  have t6 : lN (s5 x) + lN (s5 x >>> 32) = lN (s6 x) := l_add
  unfold mJ13_bitCount_95d88
  simp only [k1, t1, k2, t2, k3, t3, k4, t4, k5, t5, k6, t6, l2i]
  rw [show (127 : Int32) = nI 127 from rfl, fa_and, s6_7 hx]
