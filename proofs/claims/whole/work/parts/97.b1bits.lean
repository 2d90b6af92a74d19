/-! ===== how many bits ===== -/
theorem tb_ma {k y a j : Nat} (ha : a < 2 ^ k) : (2 ^ k * y + a).testBit j = if j < k then a.testBit j else y.testBit (j - k) := Nat.testBit_two_pow_mul_add y ha j
theorem tb_and {k y a M m : Nat} (ha : a < 2 ^ k) (hm : m < 2 ^ k) : (2 ^ k * y + a) &&& (2 ^ k * M + m) = 2 ^ k * (y &&& M) + (a &&& m) := by
  apply Nat.eq_of_testBit_eq
  intro j
  rw [Nat.testBit_and, tb_ma ha, tb_ma hm, tb_ma (Nat.and_lt_two_pow a hm)]
  by_cases q : j < k
  · rw [if_pos q, if_pos q, if_pos q, Nat.testBit_and]
  · rw [if_neg q, if_neg q, if_neg q, Nat.testBit_and]
theorem tb_sh {k s y a M m : Nat} (ha : a < 2 ^ k) (hs : s ≤ k) (hm : m < 2 ^ (k - s)) : ((2 ^ k * y + a) >>> s) &&& (2 ^ k * M + m) = 2 ^ k * ((y >>> s) &&& M) + ((a >>> s) &&& m) := by
  have hm' : m < 2 ^ k := Nat.lt_of_lt_of_le hm (Nat.pow_le_pow_right (by omega) (by omega))
  apply Nat.eq_of_testBit_eq
  intro j
  rw [Nat.testBit_and, Nat.testBit_shiftRight, tb_ma ha, tb_ma hm', tb_ma (Nat.and_lt_two_pow _ hm')]
  by_cases q : j < k
  · rw [if_pos q, if_pos q, Nat.testBit_and, Nat.testBit_shiftRight]
    by_cases q2 : s + j < k
    · rw [if_pos q2]
    · have : m.testBit j = false := Nat.testBit_lt_two_pow (Nat.lt_of_lt_of_le hm (Nat.pow_le_pow_right (by omega) (by omega)))
      rw [this, Bool.and_false, Bool.and_false]
  · rw [if_neg q, if_neg q, if_neg (by omega), Nat.testBit_and, Nat.testBit_shiftRight, show s + j - k = s + (j - k) by omega]
def pc (x n : Nat) : Nat := fb_ct (fun j => x.testBit j) n
theorem pc_split {k n y a : Nat} (ha : a < 2 ^ k) : pc (2 ^ k * y + a) (k + n) = pc a k + pc y n := by
  unfold pc
  rw [fb_ct_split]
  congr 1
  · exact fb_ct_cong (fun j hj => by rw [tb_ma ha, if_pos hj])
  · exact fb_ct_cong (fun j hj => by rw [tb_ma ha, if_neg (by omega), Nat.add_sub_cancel_left])
def sw1 (x : Nat) : Nat := x - ((x >>> 1) &&& 1431655765)
def sw2 (x : Nat) : Nat := (sw1 x &&& 858993459) + ((sw1 x >>> 2) &&& 858993459)
def sw3 (x : Nat) : Nat := (sw2 x + (sw2 x >>> 4)) &&& 252645135
def sw4 (x : Nat) : Nat := sw3 x + (sw3 x >>> 8)
def sw5 (x : Nat) : Nat := sw4 x + (sw4 x >>> 16)
def b1 (a : Nat) : Nat := a - ((a >>> 1) &&& 85)
def b2 (a : Nat) : Nat := (b1 a &&& 51) + ((b1 a >>> 2) &&& 51)
theorem b_ok : ∀ a, a < 256 → ((a >>> 1) &&& 85) ≤ a ∧ b1 a < 256 ∧ b2 a < 256 ∧ b2 a % 16 ≤ 4 ∧ b2 a / 16 ≤ 4 ∧ b2 a % 16 + b2 a / 16 = pc a 8 := by decide +kernel
theorem three {x : Nat} (hx : x < 2 ^ 24) : ∃ a b c, a < 256 ∧ b < 256 ∧ c < 256 ∧ x = 2 ^ 8 * (2 ^ 8 * c + b) + a := ⟨x % 256, x / 256 % 256, x / 65536, by omega, by omega, by omega, by omega⟩
theorem sw1_3 {a b c : Nat} (ha : a < 256) (hb : b < 256) (hc : c < 256) : sw1 (2 ^ 8 * (2 ^ 8 * c + b) + a) = 2 ^ 8 * (2 ^ 8 * b1 c + b1 b) + b1 a ∧ ((2 ^ 8 * (2 ^ 8 * c + b) + a) >>> 1) &&& 1431655765 ≤ 2 ^ 8 * (2 ^ 8 * c + b) + a := by
  have e : ((2 ^ 8 * (2 ^ 8 * c + b) + a) >>> 1) &&& 1431655765 = 2 ^ 8 * (2 ^ 8 * ((c >>> 1) &&& 21845) + ((b >>> 1) &&& 85)) + ((a >>> 1) &&& 85) := by
    rw [show 1431655765 = 2 ^ 8 * (2 ^ 8 * 21845 + 85) + 85 by decide, tb_sh ha (by decide) (by decide), tb_sh hb (by decide) (by decide)]
  have ec : ∀ c, c < 256 → (c >>> 1) &&& 21845 = (c >>> 1) &&& 85 := by decide +kernel
  rw [ec c hc] at e
  have oa := (b_ok a ha).1
  have ob := (b_ok b hb).1
  have oc := (b_ok c hc).1
  unfold sw1 b1
  rw [e]
  omega
theorem sw2_3 {a b c : Nat} (ha : a < 256) (hb : b < 256) (hc : c < 256) : sw2 (2 ^ 8 * (2 ^ 8 * c + b) + a) = 2 ^ 8 * (2 ^ 8 * b2 c + b2 b) + b2 a := by
  have oa := (b_ok a ha).2.1
  have ob := (b_ok b hb).2.1
  have oc := (b_ok c hc).2.1
  unfold sw2
  rw [(sw1_3 ha hb hc).1]
  have e1 : (2 ^ 8 * (2 ^ 8 * b1 c + b1 b) + b1 a) &&& 858993459 = 2 ^ 8 * (2 ^ 8 * (b1 c &&& 13107) + (b1 b &&& 51)) + (b1 a &&& 51) := by
    rw [show 858993459 = 2 ^ 8 * (2 ^ 8 * 13107 + 51) + 51 by decide, tb_and oa (by decide), tb_and ob (by decide)]
  have e2 : ((2 ^ 8 * (2 ^ 8 * b1 c + b1 b) + b1 a) >>> 2) &&& 858993459 = 2 ^ 8 * (2 ^ 8 * ((b1 c >>> 2) &&& 13107) + ((b1 b >>> 2) &&& 51)) + ((b1 a >>> 2) &&& 51) := by
    rw [show 858993459 = 2 ^ 8 * (2 ^ 8 * 13107 + 51) + 51 by decide, tb_sh oa (by decide) (by decide), tb_sh ob (by decide) (by decide)]
  have ec : ∀ c, c < 256 → c &&& 13107 = c &&& 51 := by decide +kernel
  have ed : ∀ c, c < 256 → (c >>> 2) &&& 13107 = (c >>> 2) &&& 51 := by decide +kernel
  rw [e1, e2, ec _ oc, ed _ oc]
  unfold b2
  omega
theorem sw3_3 {a b c : Nat} (ha : a < 256) (hb : b < 256) (hc : c < 256) : sw3 (2 ^ 8 * (2 ^ 8 * c + b) + a) = 2 ^ 8 * (2 ^ 8 * pc c 8 + pc b 8) + pc a 8 := by
  obtain ⟨_, _, a1, a2, a3, a4⟩ := b_ok a ha
  obtain ⟨_, _, c1, c2, c3, c4⟩ := b_ok b hb
  obtain ⟨_, _, d1, d2, d3, d4⟩ := b_ok c hc
  unfold sw3
  rw [sw2_3 ha hb hc, Nat.shiftRight_eq_div_pow]
  generalize b2 a = A at *
  generalize b2 b = B at *
  generalize b2 c = C at *
  have e : 2 ^ 8 * (2 ^ 8 * C + B) + A + (2 ^ 8 * (2 ^ 8 * C + B) + A) / 2 ^ 4 = 2 ^ 8 * (2 ^ 8 * (C + C / 16) + (B + B / 16 + 16 * (C % 16))) + (A + A / 16 + 16 * (B % 16)) := by omega
  rw [e, show 252645135 = 2 ^ 8 * (2 ^ 8 * 3855 + 15) + 15 by decide, tb_and (show A + A / 16 + 16 * (B % 16) < 2 ^ 8 by omega) (by decide), tb_and (show B + B / 16 + 16 * (C % 16) < 2 ^ 8 by omega) (by decide)]
  have m15 : ∀ z, z &&& 15 = z % 16 := fun z => Nat.and_two_pow_sub_one_eq_mod z 4
  have ec : ∀ c, c < 256 → c &&& 3855 = c &&& 15 := by decide +kernel
  have zA : (A + A / 16 + 16 * (B % 16)) % 16 = pc a 8 := by omega
  have zB : (B + B / 16 + 16 * (C % 16)) % 16 = pc b 8 := by omega
  have zC : (C + C / 16) % 16 = pc c 8 := by omega
  rw [ec _ (by omega), m15, m15, m15, zA, zB, zC]
theorem pc8_le : ∀ a, a < 256 → pc a 8 ≤ 8 := by decide +kernel
theorem pc3 {a b c : Nat} (ha : a < 256) (hb : b < 256) : pc (2 ^ 8 * (2 ^ 8 * c + b) + a) 24 = pc a 8 + (pc b 8 + pc c 8) := by
  rw [show 24 = 8 + (8 + 8) from rfl, pc_split ha, pc_split hb]
theorem fin3 : ∀ p, p ≤ 8 → ∀ q, q ≤ 8 → ∀ r, r ≤ 8 → (2 ^ 8 * (2 ^ 8 * r + q) + p + (2 ^ 8 * (2 ^ 8 * r + q) + p) / 2 ^ 8 + (2 ^ 8 * (2 ^ 8 * r + q) + p + (2 ^ 8 * (2 ^ 8 * r + q) + p) / 2 ^ 8) / 2 ^ 16) % 64 = p + (q + r) := by
  have h : ∀ p, p < 9 → ∀ q, q < 9 → ∀ r, r < 9 → (2 ^ 8 * (2 ^ 8 * r + q) + p + (2 ^ 8 * (2 ^ 8 * r + q) + p) / 2 ^ 8 + (2 ^ 8 * (2 ^ 8 * r + q) + p + (2 ^ 8 * (2 ^ 8 * r + q) + p) / 2 ^ 8) / 2 ^ 16) % 64 = p + (q + r) := by decide +kernel
  exact fun p hp q hq r hr => h p (by omega) q (by omega) r (by omega)
theorem sw5_3 {x : Nat} (hx : x < 2 ^ 24) : sw5 x &&& 63 = pc x 24 ∧ sw5 x < 2 ^ 24 ∧ sw4 x < 2 ^ 24 ∧ sw3 x < 2 ^ 24 ∧ sw2 x < 2 ^ 24 ∧ sw1 x < 2 ^ 24 ∧ (x >>> 1) &&& 1431655765 ≤ x := by
  obtain ⟨a, b, c, ha, hb, hc, rfl⟩ := three hx
  have e3 := sw3_3 ha hb hc
  have e2 := sw2_3 ha hb hc
  have e1 := sw1_3 ha hb hc
  have pa := pc8_le a ha
  have pb := pc8_le b hb
  have pcc := pc8_le c hc
  obtain ⟨_, a0, a1, _⟩ := b_ok a ha
  obtain ⟨_, c0, c1, _⟩ := b_ok b hb
  obtain ⟨_, d0, d1, _⟩ := b_ok c hc
  have m63 : ∀ z, z &&& 63 = z % 64 := fun z => Nat.and_two_pow_sub_one_eq_mod z 6
  rw [m63, pc3 ha hb]
  unfold sw5 sw4
  rw [e3, e2, e1.1, Nat.shiftRight_eq_div_pow, Nat.shiftRight_eq_div_pow]
  refine ⟨fin3 _ pa _ pb _ pcc, ?_, ?_, ?_, ?_, ?_, e1.2⟩
  all_goals first | omega | (generalize pc a 8 = p at *; generalize pc b 8 = q at *; generalize pc c 8 = r at *; omega)
theorem ush (x k : Nat) (hx : x < 2 ^ 31) (hk : k < 32) : (Int32.toUInt32 (nI x) >>> (Int32.toUInt32 (nI k) &&& Int32.toUInt32 31)).toInt32 = nI (x >>> k) := by
  rw [u_nI]
  congr 1
  have e1 : ∀ k, k < 32 → (Int32.toUInt32 (nI k) &&& Int32.toUInt32 31).toNat % 32 = k := by decide +kernel
  rw [UInt32.toNat_shiftRight, e1 k hk]
  congr 1
  show (BitVec.ofNat 32 x).toNat = x
  rw [BitVec.toNat_ofNat]
  omega
theorem c_bitCount (F x : Nat) (hx : x < 2 ^ 24) (σ : xSt) : mJ6_bitCount_0f7a4 F (nI x) σ = some (nI (pc x 24), σ) := by
  obtain ⟨h1, h2, h3, h4, h5, h6, h7⟩ := sw5_3 hx
  have k1 : (Int32.toUInt32 (nI x) >>> (Int32.toUInt32 1 &&& Int32.toUInt32 31)).toInt32 = nI (x >>> 1) := ush x 1 (by omega) (by omega)
  have s1 : nI x - (nI (x >>> 1) &&& 1431655765) = nI (sw1 x) := by
    rw [show (1431655765 : Int32) = nI 1431655765 from rfl, fa_and]; exact pk_sub h7
  have k2 : (Int32.toUInt32 (nI (sw1 x)) >>> (Int32.toUInt32 2 &&& Int32.toUInt32 31)).toInt32 = nI (sw1 x >>> 2) := ush _ 2 (by omega) (by omega)
  have s2 : (nI (sw1 x) &&& (858993459 : Int32)) + (nI (sw1 x >>> 2) &&& (858993459 : Int32)) = nI (sw2 x) := by
    rw [show (858993459 : Int32) = nI 858993459 from rfl, fa_and, fa_and, nI_add]; rfl
  have k3 : (Int32.toUInt32 (nI (sw2 x)) >>> (Int32.toUInt32 4 &&& Int32.toUInt32 31)).toInt32 = nI (sw2 x >>> 4) := ush _ 4 (by omega) (by omega)
  have s3 : (nI (sw2 x) + nI (sw2 x >>> 4)) &&& (252645135 : Int32) = nI (sw3 x) := by
    rw [show (252645135 : Int32) = nI 252645135 from rfl, nI_add, fa_and]; rfl
  have k4 : (Int32.toUInt32 (nI (sw3 x)) >>> (Int32.toUInt32 8 &&& Int32.toUInt32 31)).toInt32 = nI (sw3 x >>> 8) := ush _ 8 (by omega) (by omega)
  have s4 : nI (sw3 x) + nI (sw3 x >>> 8) = nI (sw4 x) := nI_add _ _
  have k5 : (Int32.toUInt32 (nI (sw4 x)) >>> (Int32.toUInt32 16 &&& Int32.toUInt32 31)).toInt32 = nI (sw4 x >>> 16) := ush _ 16 (by omega) (by omega)
  have s5 : nI (sw4 x) + nI (sw4 x >>> 16) = nI (sw5 x) := nI_add _ _
  unfold mJ6_bitCount_0f7a4
  simp only [k1, s1, k2, s2, k3, s3, k4, s4, k5, s5]
  rw [show (63 : Int32) = nI 63 from rfl, fa_and, h1]
