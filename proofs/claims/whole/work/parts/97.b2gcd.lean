theorem shrI (x k : Nat) (hx : x < 2 ^ 31) (hk : k < 32) : nI x >>> (nI k &&& 31) = nI (x / 2 ^ k) := by
  have e : ∀ k, k < 32 → ((nI k &&& 31).toBitVec.smod 32).toNat = k := by decide +kernel
  apply Int32.toInt_inj.mp
  have h2 : x / 2 ^ k ≤ x := Nat.div_le_self _ _
  have e2 : (nI x >>> (nI k &&& 31)).toInt = ((nI x).toBitVec.sshiftRight' ((nI k &&& 31).toBitVec.smod 32)).toInt := rfl
  rw [e2, BitVec.toInt_sshiftRight', e k hk, Int.shiftRight_eq_div_pow]
  show (nI x).toInt / _ = _
  rw [nI_toInt hx, nI_toInt (by omega)]
  norm_cast
theorem bitI (x k : Nat) (hx : x < 2 ^ 31) (hk : k < 32) : (nI x >>> (nI k &&& 31)) &&& 1 = nI (if x.testBit k then 1 else 0) := by
  rw [shrI x k hx hk, show (1 : Int32) = nI 1 from rfl, fa_and, Nat.and_one_is_mod, Nat.testBit_eq_decide_div_mod_eq]
  congr 1
  by_cases q : x / 2 ^ k % 2 = 1
  · simp [q]
  · have : x / 2 ^ k % 2 = 0 := by omega
    simp [this]
theorem hasB_t (x k : Nat) (hx : x < 2 ^ 31) (hk : k < 32) : hasB (nI x) k ↔ x.testBit k = true := by
  show (nI x >>> (nI k &&& 31)) &&& 1 = 1 ↔ _
  rw [bitI x k hx hk]
  cases q : x.testBit k with
  | true => exact ⟨fun _ => rfl, fun _ => rfl⟩
  | false => exact ⟨fun h => absurd h (by decide), fun h => by cases h⟩
theorem m_onesL (F x : Nat) (hx : x < 2 ^ 24) (σ : xSt) : ∀ (fu j : Nat), j ≤ 24 → 24 < j + fu → mX9_ones_L4 F fu (nI x) (nI (pc x j)) (nI j) σ = some (nI (pc x 24), σ) := by
  intro fu
  induction fu with
  | zero => intro j a b; omega
  | succ fu ih =>
    intro j a b
    show mX9_ones_S4 F (mX9_ones_L4 F fu) (nI x) (nI (pc x j)) (nI j) σ = _
    unfold mX9_ones_S4 mX9_ones_L24
    by_cases q : j = 24
    · subst q; rw [if_pos (by decide)]
    · rw [if_neg (show ¬ ((24 : Int32) ≤ nI j) from nI_ge (b := 24) (by omega) (by omega)), bitI x j (by omega) (by omega), nI_add, nI_1]
      exact ih (j + 1) (by omega) (by omega)
theorem m_ones (F x : Nat) (hF : 100 ≤ F) (hx : x < 2 ^ 24) (σ : xSt) : mX9_ones F (nI x) σ = some (nI (pc x 24), σ) := m_onesL F x hx σ F 0 (by omega) (by omega)
/-! long numbers -/
theorem l_toInt {n : Nat} (h : n < 2 ^ 63) : (lN n).toInt = n := by
  show (Int64.ofNat n).toInt = n
  rw [Int64.toInt_ofNat_of_lt h]
theorem l_eq {a b : Nat} (ha : a < 2 ^ 63) (hb : b < 2 ^ 63) : lN a = lN b ↔ a = b := fb_lN_inj ha hb
theorem l_div {a b : Nat} (ha : a < 2 ^ 63) (hb : b < 2 ^ 63) (h0 : 0 < b) : lN a / lN b = lN (a / b) := by
  apply Int64.toInt_inj.mp
  have h2 : a / b ≤ a := Nat.div_le_self _ _
  rw [lg_ldiv_nonneg (by rw [l_toInt ha]; omega) (by rw [l_toInt hb]; omega), l_toInt ha, l_toInt hb, l_toInt (by omega)]
  norm_cast
theorem l_add {a b : Nat} : lN a + lN b = lN (a + b) := by
  show Int64.ofNat a + Int64.ofNat b = Int64.ofNat (a + b)
  rw [Int64.ofNat_add]
theorem l_mul {a b : Nat} : lN a * lN b = lN (a * b) := by
  show Int64.ofNat a * Int64.ofNat b = Int64.ofNat (a * b)
  rw [Int64.ofNat_mul]
theorem l_sub {a b : Nat} (h : b ≤ a) : lN a - lN b = lN (a - b) := by
  have e : lN a = lN (a - b) + lN b := by rw [l_add]; congr 1; omega
  rw [e, Int64.add_sub_cancel]
theorem l_rem {a b : Nat} (ha : a < 2 ^ 63) (hb : b < 2 ^ 63) (h0 : 0 < b) : lN a - lN a / lN b * lN b = lN (a % b) := by
  rw [l_div ha hb h0, l_mul, l_sub (Nat.div_mul_le_self a b)]
  congr 1
  have := Nat.div_add_mod a b
  rw [Nat.mul_comm] at this
  omega
theorem l_lt {a b : Nat} (ha : a < 2 ^ 63) (hb : b < 2 ^ 63) : lN a < lN b ↔ a < b := by
  rw [Int64.lt_iff_toInt_lt, l_toInt ha, l_toInt hb]; omega
theorem l_cmp0 {a : Nat} (ha : a < 2 ^ 63) : lg_cmp (lN a) 0 = if a = 0 then 0 else 1 := by
  unfold lg_cmp
  by_cases q : a = 0
  · subst q; rfl
  · rw [if_neg q, if_pos]
    show lN 0 < lN a
    exact (l_lt (by omega) ha).mpr (by omega)
theorem l_nz {a : Nat} (ha : a < 2 ^ 63) (h : 0 < a) : xnzL (lN a) = true := by
  unfold xnzL
  have : ¬ (lN a = 0) := fun e => by
    have := (l_eq ha (b := 0) (by omega)).mp e
    omega
  simp [this]
theorem l_i {n : Nat} (h : n < 2 ^ 31) : (nI n).toInt64 = lN n := by
  apply Int64.toInt_inj.mp
  rw [Int32.toInt_toInt64, nI_toInt h, l_toInt (by omega)]
/-- the rest of two steps is less than half -/
theorem half {a b : Nat} (hb : 0 < b) (hr : 0 < a % b) : b % (a % b) * 2 < b := by
  have h1 := Nat.mod_lt a hb
  have h2 := Nat.mod_lt b hr
  generalize a % b = r at *
  by_cases q : r * 2 ≤ b
  · omega
  · have e : b % r = b - r := by
      rw [Nat.mod_eq_sub_mod (by omega), Nat.mod_eq_of_lt (by omega)]
    omega
theorem m_gcdL (F x y : Nat) (w : Int32) (σ : xSt) : ∀ (k a b fu : Nat), a < 2 ^ 62 → b < 2 ^ k → k ≤ 62 → 2 * k + 1 ≤ fu → mX9_lowest_L6 F fu (lN x) (lN y) w (lN a) (lN b) σ = mX9_lowest_L31 F (lN x) (lN y) w (lN (Nat.gcd a b)) σ := by
  have stop : ∀ (fu a : Nat), mX9_lowest_L6 F (fu + 1) (lN x) (lN y) w (lN a) (lN 0) σ = mX9_lowest_L31 F (lN x) (lN y) w (lN (Nat.gcd a 0)) σ := by
    intro fu a
    show mX9_lowest_S6 F (mX9_lowest_L6 F fu) (lN x) (lN y) w (lN a) (lN 0) σ = _
    unfold mX9_lowest_S6
    rw [l_cmp0 (by omega), if_pos rfl, if_pos rfl, Nat.gcd_zero_right]
  have step : ∀ (fu a b : Nat), a < 2 ^ 62 → b < 2 ^ 62 → 0 < b → mX9_lowest_L6 F (fu + 1) (lN x) (lN y) w (lN a) (lN b) σ = mX9_lowest_L6 F fu (lN x) (lN y) w (lN b) (lN (a % b)) σ := by
    intro fu a b ha hb h0
    show mX9_lowest_S6 F (mX9_lowest_L6 F fu) (lN x) (lN y) w (lN a) (lN b) σ = _
    unfold mX9_lowest_S6
    rw [l_cmp0 (by omega), if_neg (show ¬ b = 0 by omega), if_neg (by decide), l_nz (by omega) h0, l_rem (by omega) (by omega) h0]
    rfl
  intro k
  induction k with
  | zero =>
    intro a b fu ha hb hk hf
    obtain ⟨fu, rfl⟩ : ∃ f, fu = f + 1 := ⟨fu - 1, by omega⟩
    have : b = 0 := by omega
    subst this
    exact stop fu a
  | succ k ih =>
    intro a b fu ha hb hk hf
    have hb62 : b < 2 ^ 62 := Nat.lt_of_lt_of_le hb (Nat.pow_le_pow_right (by omega) hk)
    obtain ⟨fu, rfl⟩ : ∃ f, fu = f + 1 := ⟨fu - 1, by omega⟩
    by_cases q : b = 0
    · subst q; exact stop fu a
    · rw [step fu a b ha hb62 (by omega), Nat.gcd_comm, Nat.gcd_rec]
      have hr := Nat.mod_lt a (show 0 < b by omega)
      obtain ⟨fu, rfl⟩ : ∃ f, fu = f + 1 := ⟨fu - 1, by omega⟩
      by_cases q2 : a % b = 0
      · rw [q2, stop fu b, Nat.gcd_comm]
      · rw [step fu b (a % b) hb62 (by omega) (by omega), ih (a % b) (b % (a % b)) fu (by omega) ?_ (by omega) (by omega), Nat.gcd_comm, ← Nat.gcd_rec]
        have := half (a := a) (show 0 < b by omega) (by omega)
        rw [Nat.pow_succ] at hb
        omega
theorem c_gcdL (F x y : Nat) (σ : xSt) : ∀ (k a b fu st : Nat), a < 2 ^ 62 → b < 2 ^ k → k ≤ 62 → 2 * k + 1 ≤ fu → st + 2 * k ≤ 200 → mX0_become_L17 F fu (lN x) (lN y) (lN a) (lN b) (nI st) σ = mX0_become_L53 F (lN x) (lN y) (lN (Nat.gcd a b)) σ := by
  have stop : ∀ (fu a st : Nat), mX0_become_L17 F (fu + 1) (lN x) (lN y) (lN a) (lN 0) (nI st) σ = mX0_become_L53 F (lN x) (lN y) (lN (Nat.gcd a 0)) σ := by
    intro fu a st
    show mX0_become_S17 F (mX0_become_L17 F fu) (lN x) (lN y) (lN a) (lN 0) (nI st) σ = _
    unfold mX0_become_S17
    rw [l_cmp0 (by omega), if_pos rfl, if_pos rfl, Nat.gcd_zero_right, ite_self]
  have step : ∀ (fu a b st : Nat), a < 2 ^ 62 → b < 2 ^ 62 → 0 < b → st < 200 → mX0_become_L17 F (fu + 1) (lN x) (lN y) (lN a) (lN b) (nI st) σ = mX0_become_L17 F fu (lN x) (lN y) (lN b) (lN (a % b)) (nI (st + 1)) σ := by
    intro fu a b st ha hb h0 hs
    show mX0_become_S17 F (mX0_become_L17 F fu) (lN x) (lN y) (lN a) (lN b) (nI st) σ = _
    unfold mX0_become_S17
    rw [if_neg (show ¬ ((200 : Int32) ≤ nI st) from nI_ge (b := 200) (by omega) (by omega)), l_cmp0 (by omega), if_neg (show ¬ b = 0 by omega), if_neg (by decide), l_nz (by omega) h0, l_rem (by omega) (by omega) h0, nI_1]
    rfl
  intro k
  induction k with
  | zero =>
    intro a b fu st ha hb hk hf hs
    obtain ⟨fu, rfl⟩ : ∃ f, fu = f + 1 := ⟨fu - 1, by omega⟩
    have : b = 0 := by omega
    subst this
    exact stop fu a st
  | succ k ih =>
    intro a b fu st ha hb hk hf hs
    have hb62 : b < 2 ^ 62 := Nat.lt_of_lt_of_le hb (Nat.pow_le_pow_right (by omega) hk)
    obtain ⟨fu, rfl⟩ : ∃ f, fu = f + 1 := ⟨fu - 1, by omega⟩
    by_cases q : b = 0
    · subst q; exact stop fu a st
    · rw [step fu a b st ha hb62 (by omega) (by omega), Nat.gcd_comm, Nat.gcd_rec]
      have hr := Nat.mod_lt a (show 0 < b by omega)
      obtain ⟨fu, rfl⟩ : ∃ f, fu = f + 1 := ⟨fu - 1, by omega⟩
      by_cases q2 : a % b = 0
      · rw [q2, stop fu b, Nat.gcd_comm]
      · rw [step fu b (a % b) (st + 1) hb62 (by omega) (by omega) (by omega), ih (a % b) (b % (a % b)) fu (st + 2) (by omega) ?_ (by omega) (by omega) (by omega), Nat.gcd_comm, ← Nat.gcd_rec]
        have := half (a := a) (show 0 < b by omega) (by omega)
        rw [Nat.pow_succ] at hb
        omega
