/-! ===== bits of long numbers ===== -/
def rp (c : Nat) : Nat → Nat
  | 0 => 0
  | n + 1 => 2 ^ 8 * rp c n + c
def s1 (n x : Nat) : Nat := x - ((x >>> 1) &&& rp 85 n)
def s2 (n x : Nat) : Nat := (s1 n x &&& rp 51 n) + ((s1 n x >>> 2) &&& rp 51 n)
def s3 (n x : Nat) : Nat := (s2 n x + (s2 n x >>> 4)) &&& rp 15 n
theorem s1_le : ∀ n x, (x >>> 1) &&& rp 85 n ≤ x := fun n x => Nat.le_trans Nat.and_le_left (by rw [Nat.shiftRight_eq_div_pow]; exact Nat.div_le_self _ _)
theorem s1_s {n y a : Nat} (ha : a < 256) : s1 (n + 1) (2 ^ 8 * y + a) = 2 ^ 8 * s1 n y + b1 a := by
  have e : ((2 ^ 8 * y + a) >>> 1) &&& rp 85 (n + 1) = 2 ^ 8 * ((y >>> 1) &&& rp 85 n) + ((a >>> 1) &&& 85) := tb_sh ha (by decide) (by decide)
  have oa := (b_ok a ha).1
  have oy := s1_le n y
  unfold s1 b1
  rw [e]
  omega
theorem s2_s {n y a : Nat} (ha : a < 256) : s2 (n + 1) (2 ^ 8 * y + a) = 2 ^ 8 * s2 n y + b2 a := by
  have oa := (b_ok a ha).2.1
  unfold s2
  rw [s1_s ha]
  have e1 : (2 ^ 8 * s1 n y + b1 a) &&& rp 51 (n + 1) = 2 ^ 8 * (s1 n y &&& rp 51 n) + (b1 a &&& 51) := tb_and oa (by decide)
  have e2 : ((2 ^ 8 * s1 n y + b1 a) >>> 2) &&& rp 51 (n + 1) = 2 ^ 8 * ((s1 n y >>> 2) &&& rp 51 n) + ((b1 a >>> 2) &&& 51) := tb_sh oa (by decide) (by decide)
  rw [e1, e2]
  unfold b2
  omega
theorem s2_0 (x : Nat) : s2 0 x = 0 := by
  unfold s2 rp
  rw [Nat.and_zero, Nat.and_zero]
theorem s2_low : ∀ n y, s2 n y % 16 ≤ 4
  | 0, y => by rw [s2_0]; omega
  | n + 1, y => by
    have ha : y % 256 < 256 := Nat.mod_lt _ (by omega)
    have e : y = 2 ^ 8 * (y / 256) + y % 256 := by omega
    rw [e, s2_s ha]
    have := (b_ok (y % 256) ha).2.2.2.1
    omega
theorem s3_s {n y a : Nat} (ha : a < 256) : s3 (n + 1) (2 ^ 8 * y + a) = 2 ^ 8 * s3 n y + pc a 8 := by
  obtain ⟨_, _, a1, a2, a3, a4⟩ := b_ok a ha
  have hl := s2_low n y
  unfold s3
  rw [s2_s ha, Nat.shiftRight_eq_div_pow, Nat.shiftRight_eq_div_pow]
  generalize s2 n y = Y at *
  generalize b2 a = A at *
  have e : 2 ^ 8 * Y + A + (2 ^ 8 * Y + A) / 2 ^ 4 = 2 ^ 8 * (Y + Y / 2 ^ 4) + (A + A / 16 + 16 * (Y % 16)) := by omega
  rw [e]
  show _ &&& (2 ^ 8 * rp 15 n + 15) = _
  rw [tb_and (show A + A / 16 + 16 * (Y % 16) < 2 ^ 8 by omega) (by decide)]
  have m15 : ∀ z, z &&& 15 = z % 16 := fun z => Nat.and_two_pow_sub_one_eq_mod z 4
  have zA : (A + A / 16 + 16 * (Y % 16)) % 16 = pc a 8 := by omega
  rw [m15, zA]
theorem s3_0 (x : Nat) : s3 0 x = 0 := by unfold s3 rp; rw [Nat.and_zero]
