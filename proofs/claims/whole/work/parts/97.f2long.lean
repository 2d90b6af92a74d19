theorem dv {a b c : Nat} (m : Nat) (hm : 0 < m) (h : a = b + m * c) (hb : b < m) : a / m = c := by
  rw [h, Nat.add_mul_div_left _ _ hm, Nat.div_eq_of_lt hb, Nat.zero_add]
theorem d3a (P0 P1 P2 P3 K : Nat) : P0 + 256 * (P1 + 256 * (P2 + 256 * (P3 + 256 * K))) = P0 + 256 * (P1 + 256 * (P2 + 256 * P3)) + 2 ^ 32 * K := by omega
theorem d3b (P0 P1 P2 P3 : Nat) (h0 : P0 ≤ 32) (h1 : P1 ≤ 32) (h2 : P2 ≤ 32) (h3 : P3 ≤ 32) : P0 + 256 * (P1 + 256 * (P2 + 256 * P3)) < 2 ^ 32 := by omega
theorem d3c (a b X Y : Nat) (h : a + b < 128) : (a + 256 * X + (b + 256 * Y)) % 128 = a + b := by omega
theorem fin8 (p0 p1 p2 p3 p4 p5 p6 R1 R2 R3 R4 R5 i : Nat) (h0 : p0 ≤ 8) (h1 : p1 ≤ 8) (h2 : p2 ≤ 8) (h3 : p3 ≤ 8) (h4 : p4 ≤ 8) (h5 : p5 ≤ 8) (h6 : p6 ≤ 8) (hi : i = p0 + 256 * R1) (e1 : R1 = p1 + 256 * R2) (e2 : R2 = p2 + 256 * R3) (e3 : R3 = p3 + 256 * R4) (e4 : R4 = p4 + 256 * R5) (e5 : R5 = p5 + 256 * p6) :
    ((i + i / 2 ^ 8) + (i + i / 2 ^ 8) / 2 ^ 16 + ((i + i / 2 ^ 8) + (i + i / 2 ^ 8) / 2 ^ 16) / 2 ^ 32) % 128 = p0 + p1 + p2 + p3 + p4 + p5 + p6 := by
  have d1 : i / 2 ^ 8 = R1 := dv (2 ^ 8) (by decide) hi (by omega)
  rw [d1]
  have j0 : i + R1 = (p0 + p1) + 256 * (R1 + R2) := by omega
  have j1 : R1 + R2 = (p1 + p2) + 256 * (R2 + R3) := by omega
  have j2 : R2 + R3 = (p2 + p3) + 256 * (R3 + R4) := by omega
  have j3 : R3 + R4 = (p3 + p4) + 256 * (R4 + R5) := by omega
  have j4 : R4 + R5 = (p4 + p5) + 256 * (R5 + p6) := by omega
  have j5 : R5 + p6 = (p5 + p6) + 256 * p6 := by omega
  generalize i + R1 = j at *
  generalize R1 + R2 = J1 at *
  generalize R2 + R3 = J2 at *
  generalize R3 + R4 = J3 at *
  generalize R4 + R5 = J4 at *
  generalize R5 + p6 = J5 at *
  have d2 : j / 2 ^ 16 = J2 := dv (b := (p0 + p1) + 256 * (p1 + p2)) (2 ^ 16) (by decide) (by rw [j0, j1]; omega) (by omega)
  rw [d2]
  have k0 : j + J2 = (p0 + p1 + p2 + p3) + 256 * (J1 + J3) := by rw [j0, j2]; omega
  have k1 : J1 + J3 = (p1 + p2 + p3 + p4) + 256 * (J2 + J4) := by rw [j1, j3]; omega
  have k2 : J2 + J4 = (p2 + p3 + p4 + p5) + 256 * (J3 + J5) := by rw [j2, j4]; omega
  have k3 : J3 + J5 = (p3 + p4 + p5 + p6) + 256 * (J4 + p6) := by rw [j3, j5]; omega
  have k4 : J4 + p6 = (p4 + p5 + p6) + 256 * J5 := by rw [j4]; omega
  generalize j + J2 = k at *
  generalize J1 + J3 = K1 at *
  generalize J2 + J4 = K2 at *
  generalize J3 + J5 = K3 at *
  generalize J4 + p6 = K4 at *
  have d3 : k / 2 ^ 32 = K4 := dv (2 ^ 32) (by decide) (show k = ((p0 + p1 + p2 + p3) + 256 * ((p1 + p2 + p3 + p4) + 256 * ((p2 + p3 + p4 + p5) + 256 * (p3 + p4 + p5 + p6)))) + 2 ^ 32 * K4 by rw [k0, k1, k2, k3]; exact d3a _ _ _ _ _) (d3b _ _ _ _ (by omega) (by omega) (by omega) (by omega))
  rw [d3, k0, k4, d3c _ _ _ _ (by omega)]
  omega
theorem pc_le8 {a : Nat} (h : a < 256) : pc a 8 ≤ 8 := pc8_le a h
/-- seven bytes -/
theorem seven {x : Nat} (hx : x < 2 ^ 56) : ∃ a b c d e f g, a < 256 ∧ b < 256 ∧ c < 256 ∧ d < 256 ∧ e < 256 ∧ f < 256 ∧ g < 256 ∧ x = 2 ^ 8 * (2 ^ 8 * (2 ^ 8 * (2 ^ 8 * (2 ^ 8 * (2 ^ 8 * (2 ^ 8 * 0 + g) + f) + e) + d) + c) + b) + a := by
  have st : ∀ y n, y < 2 ^ (n + 8) → ∃ q a, a < 256 ∧ q < 2 ^ n ∧ y = 2 ^ 8 * q + a := fun y n h => ⟨y / 256, y % 256, Nat.mod_lt _ (by omega), by
    rw [Nat.pow_add] at h
    exact Nat.div_lt_of_lt_mul (by rw [Nat.mul_comm]; exact h), by omega⟩
  obtain ⟨q1, a, ha, h1, rfl⟩ := st x 48 hx
  obtain ⟨q2, b, hb, h2, rfl⟩ := st q1 40 h1
  obtain ⟨q3, c, hc, h3, rfl⟩ := st q2 32 h2
  obtain ⟨q4, d, hd, h4, rfl⟩ := st q3 24 h3
  obtain ⟨q5, e, he, h5, rfl⟩ := st q4 16 h4
  obtain ⟨q6, f, hf, h6, rfl⟩ := st q5 8 h5
  exact ⟨a, b, c, d, e, f, q6, ha, hb, hc, hd, he, hf, h6, by rw [Nat.mul_zero, Nat.zero_add]⟩
def s4 (x : Nat) : Nat := s3 8 x + (s3 8 x >>> 8)
def s5 (x : Nat) : Nat := s4 x + (s4 x >>> 16)
def s6 (x : Nat) : Nat := s5 x + (s5 x >>> 32)
theorem s3_1 {a : Nat} : s3 1 0 = 0 := by
  have := @s3_s 0 0 0 (by decide)
  rw [s3_0] at this
  exact this
theorem s6_7 {x : Nat} (hx : x < 2 ^ 56) : s6 x &&& 127 = pc x 64 := by
  obtain ⟨a, b, c, d, e, f, g, ha, hb, hc, hd, he, hf, hg, rfl⟩ := seven hx
  have m127 : ∀ z, z &&& 127 = z % 128 := fun z => Nat.and_two_pow_sub_one_eq_mod z 7
  have e3 : s3 8 (2 ^ 8 * (2 ^ 8 * (2 ^ 8 * (2 ^ 8 * (2 ^ 8 * (2 ^ 8 * (2 ^ 8 * 0 + g) + f) + e) + d) + c) + b) + a) = pc a 8 + 256 * (pc b 8 + 256 * (pc c 8 + 256 * (pc d 8 + 256 * (pc e 8 + 256 * (pc f 8 + 256 * pc g 8))))) := by
    rw [s3_s ha, s3_s hb, s3_s hc, s3_s hd, s3_s he, s3_s hf, s3_s hg, s3_1 (a := 0)]
    have k : ∀ X Y : Nat, 2 ^ 8 * X + Y = Y + 256 * X := fun X Y => by omega
    rw [k, k, k, k, k, k, k]
    rfl
  have ep : pc (2 ^ 8 * (2 ^ 8 * (2 ^ 8 * (2 ^ 8 * (2 ^ 8 * (2 ^ 8 * (2 ^ 8 * 0 + g) + f) + e) + d) + c) + b) + a) 64 = pc a 8 + (pc b 8 + (pc c 8 + (pc d 8 + (pc e 8 + (pc f 8 + (pc g 8 + pc 0 8)))))) := by
    rw [show 64 = 8 + (8 + (8 + (8 + (8 + (8 + (8 + 8)))))) from rfl, pc_split ha, pc_split hb, pc_split hc, pc_split hd, pc_split he, pc_split hf, pc_split hg]
  have z0 : pc 0 8 = 0 := by decide
  rw [m127, ep, z0]
  unfold s6 s5 s4
  rw [Nat.shiftRight_eq_div_pow, Nat.shiftRight_eq_div_pow, Nat.shiftRight_eq_div_pow, fin8 (pc a 8) (pc b 8) (pc c 8) (pc d 8) (pc e 8) (pc f 8) (pc g 8) _ _ _ _ _ _ (pc_le8 ha) (pc_le8 hb) (pc_le8 hc) (pc_le8 hd) (pc_le8 he) (pc_le8 hf) (pc_le8 hg) e3 rfl rfl rfl rfl rfl]
  omega
theorem ul_nI (y : UInt64) : y.toInt64 = lN y.toNat := by
  apply Int64.toBitVec_inj.mp
  show y.toBitVec = BitVec.ofNat 64 y.toNat
  apply BitVec.eq_of_toNat_eq
  rw [BitVec.toNat_ofNat]
  exact (Nat.mod_eq_of_lt y.toNat_lt).symm
theorem lush (x k : Nat) (hx : x < 2 ^ 63) (hk : k < 64) : (Int64.toUInt64 (lN x) >>> (Int64.toUInt64 (Int32.toInt64 (nI k)) &&& Int64.toUInt64 63)).toInt64 = lN (x >>> k) := by
  rw [ul_nI]
  congr 1
  have e1 : ∀ k, k < 64 → (Int64.toUInt64 (Int32.toInt64 (nI k)) &&& Int64.toUInt64 63).toNat % 64 = k := by decide +kernel
  rw [UInt64.toNat_shiftRight, e1 k hk]
  congr 1
  show (BitVec.ofNat 64 x).toNat = x
  rw [BitVec.toNat_ofNat]
  omega
