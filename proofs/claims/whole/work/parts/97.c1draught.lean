/-! ===== draughts ===== -/
def wgt (c x : Nat) : Nat → Nat
  | 0 => 1
  | n + 1 => wgt c x n * (if x.testBit n then c else 16 - c)
theorem wgt_pow (c x : Nat) : ∀ n, wgt c x n = c ^ pc x n * (16 - c) ^ (n - pc x n)
  | 0 => rfl
  | n + 1 => by
    have hle : pc x n ≤ n := fb_ct_le _ n
    show wgt c x n * _ = c ^ (pc x n + (if x.testBit n then 1 else 0)) * _
    rw [wgt_pow c x n]
    cases q : x.testBit n with
    | true =>
      simp only [↓reduceIte]
      rw [show n + 1 - pc x (n + 1) = n - pc x n by
        show n + 1 - (pc x n + (if x.testBit n then 1 else 0)) = _
        rw [q]; simp only [↓reduceIte]; omega, Nat.pow_succ, Nat.mul_right_comm]
    | false =>
      simp only [Bool.false_eq_true, ↓reduceIte, Nat.add_zero]
      rw [show n + 1 - pc x (n + 1) = (n - pc x n) + 1 by
        show n + 1 - (pc x n + (if x.testBit n then 1 else 0)) = _
        rw [q]; simp only [Bool.false_eq_true, ↓reduceIte]; omega, Nat.pow_succ, Nat.mul_assoc]
theorem wgt_le (c x : Nat) (hc : c ≤ 16) : ∀ n, wgt c x n ≤ 16 ^ n
  | 0 => Nat.le_refl _
  | n + 1 => by
    show wgt c x n * _ ≤ 16 ^ n * 16
    refine Nat.mul_le_mul (wgt_le c x hc n) ?_
    cases x.testBit n with
    | true => simp only [↓reduceIte]; exact hc
    | false => simp only [Bool.false_eq_true, ↓reduceIte]; omega
theorem p16 {n : Nat} (hn : n ≤ 10) : 16 ^ n ≤ 2 ^ 40 := by
  have : 16 ^ n ≤ 16 ^ 10 := Nat.pow_le_pow_right (by omega) hn
  omega
theorem c_powL (F b k : Nat) (σ : xSt) (hk : k < 100) (hb : b < 2 ^ 31) : ∀ (fu j : Nat), j ≤ k → k < j + fu → mX8_power_L5 F fu (nI b) (nI k) (lN (b ^ j)) (nI j) σ = some (lN (b ^ k), σ) := by
  intro fu
  induction fu with
  | zero => intro j x y; omega
  | succ fu ih =>
    intro j x y
    show mX8_power_S5 F (mX8_power_L5 F fu) (nI b) (nI k) (lN (b ^ j)) (nI j) σ = _
    unfold mX8_power_S5 mX8_power_L22
    by_cases q : j = k
    · subst q; rw [if_pos (nI_le (Nat.le_refl _) (by omega))]
    · rw [if_neg (nI_ge (by omega) (by omega)), nI_1, l_i hb, l_mul, ← Nat.pow_succ]
      exact ih (j + 1) (by omega) (by omega)
theorem c_power (F b k : Nat) (σ : xSt) (hF : 200 ≤ F) (hk : k < 100) (hb : b < 2 ^ 31) : mX8_power F (nI b) (nI k) σ = some (lN (b ^ k), σ) := c_powL F b k σ hk hb F 0 (by omega) (by omega)
theorem pc_low {x n m : Nat} (hx : x < 2 ^ n) (h : n ≤ m) : pc x m = pc x n := by
  obtain ⟨d, rfl⟩ : ∃ d, m = n + d := ⟨m - n, by omega⟩
  unfold pc
  rw [fb_ct_split]
  have : fb_ct (fun k => x.testBit (n + k)) d = 0 := fb_ct_zero.mpr (fun k _ => Nat.testBit_lt_two_pow (Nat.lt_of_lt_of_le hx (Nat.pow_le_pow_right (by omega) (by omega))))
  omega
def Dx (D : Dy) (x t : Nat) : Dy := fun j e => match j with
  | 0 => D 0 e
  | 1 => D 1 e
  | 2 => D 2 e
  | 3 => D 3 e
  | 4 => D 4 e
  | 5 => D 5 e
  | 6 => D 6 e
  | 7 => if x.testBit e then 1 else 0
  | _ => t
theorem CD_x {σ : xSt} {D : Dy} (h : CD σ D) (x t : Nat) : CD σ (Dx D x t) := h
theorem MD_x {σ : xSt} {D : Dy} {y x t : Nat} (hx : x < 2 ^ 24) (h : MD σ (Dx D y t)) : MD (xsI σ 22 (nI x)) (Dx D x t) := by
  obtain ⟨a, b, c, d, e, g, k, l, m⟩ := h
  refine ⟨a, b, c, d, e, g, fun h hh => ?_, l, m⟩
  rw [xI_sI, if_pos rfl]
  have := hasB_t x h (by omega) (by omega)
  apply propext
  show hasB (nI x) h ↔ (if x.testBit h then 1 else 0) = 1
  rw [this]
  cases x.testBit h with
  | true => simp
  | false => simp
theorem MD_x0 {σ : xSt} {D : Dy} {t : Nat} (ht : t < 6) (h : MD σ D) (h22 : xI σ 22 = 0) : MD (xsI σ 23 (nI t)) (Dx D 0 t) := by
  obtain ⟨a, b, c, d, e, g, k, l, m⟩ := h
  refine ⟨a, b, c, d, e, g, fun h hh => ?_, by rw [xI_sI, if_pos rfl]; rfl, ht⟩
  rw [xI_sI, if_neg (by decide), h22]
  have := hasB_t 0 h (by omega) (by omega)
  apply propext
  show hasB (nI 0) h ↔ (if (0 : Nat).testBit h then 1 else 0) = 1
  rw [this, Nat.zero_testBit]
  simp
def drF (H : Hs) (D : Dy) (c t s hr x : Nat) : Nat := if tlB H (Dx D x t) t s hr then wgt c x (hr + 1) else 0
theorem dr_le {H : Hs} {D : Dy} {c t s hr n : Nat} (hc : c ≤ 16) (hr1 : hr < 10) (hn : n ≤ 1024) : fb_sm (drF H D c t s hr) n < 2 ^ 62 := by
  have h := fb_sm_bound (f := drF H D c t s hr) (c := 2 ^ 40) (n := n) (fun k _ => by
    unfold drF
    by_cases q : tlB H (Dx D k t) t s hr = true
    · rw [if_pos q]; exact Nat.le_trans (wgt_le c k hc _) (p16 (by omega))
    · rw [if_neg q]; omega)
  have : n * 2 ^ 40 ≤ 1024 * 2 ^ 40 := Nat.mul_le_mul_right _ hn
  omega
theorem shl1 : ∀ k, k < 31 → (1 : Int32) <<< (nI k &&& 31) = nI (2 ^ k) := by decide +kernel
theorem shl2 : ∀ k, k < 30 → (2 : Int32) <<< (nI k &&& 31) = nI (2 ^ (k + 1)) := by decide +kernel
theorem shl4 : ∀ k, k < 10 → (1 : Int64) <<< (Int32.toInt64 (4 * (nI k + 1)) &&& 63) = lN (16 ^ (k + 1)) := by decide +kernel
theorem c_drL (F c t s hr : Nat) (w : Int32) (H : Hs) (D : Dy) (hF : 2000 ≤ F) (hB : HB H) (ht : t < hT H) (hc : c ≤ 16) (hr1 : hr < 10) : ∀ (fu x : Nat) (σ : xSt), x ≤ 2 ^ (hr + 1) → 2 ^ (hr + 1) < x + fu → CH σ H → CD σ D →
    ∃ σ', mX8_draughts_L73 F fu (nI c) (nI t) (nI s) (nI hr) w (nI (hr + 1)) (lN (fb_sm (drF H D c t s hr) x)) (nI x) σ = mX8_draughts_L149 F w (nI (hr + 1)) (lN (fb_sm (drF H D c t s hr) (2 ^ (hr + 1)))) σ' ∧ xFr [1, 2] [2, 3, 4] σ σ' := by
  have h1024 : 2 ^ (hr + 1) ≤ 1024 := Nat.le_trans (Nat.pow_le_pow_right (by omega) (show hr + 1 ≤ 10 by omega)) (by decide)
  intro fu
  induction fu with
  | zero => intro x σ a b; omega
  | succ fu ih =>
    intro x σ a b hC hD
    show ∃ σ', mX8_draughts_S73 F (mX8_draughts_L73 F fu) (nI c) (nI t) (nI s) (nI hr) w (nI (hr + 1)) (lN (fb_sm (drF H D c t s hr) x)) (nI x) σ = _ ∧ _
    unfold mX8_draughts_S73 mX8_draughts_L143
    rw [shl1 (hr + 1) (by omega)]
    by_cases q : x = 2 ^ (hr + 1)
    · rw [← q, if_pos (nI_le (Nat.le_refl _) (by omega))]
      exact ⟨σ, rfl, xFr_rf⟩
    · have hx : x < 2 ^ (hr + 1) := by omega
      have epc : pc x 24 = pc x (hr + 1) := pc_low hx (by omega)
      have hle : pc x (hr + 1) ≤ hr + 1 := fb_ct_le _ _
      have e16 : (16 : Int32) - nI c = nI (16 - c) := pk_sub (a := 16) hc
      have es : nI (hr + 1) - nI (pc x (hr + 1)) = nI (hr + 1 - pc x (hr + 1)) := pk_sub hle
      rw [if_neg (nI_ge hx (by omega)), c_bitCount F x (by omega), xb2_s, epc, c_power F c _ σ (by omega) (by omega) (by omega), xb2_s, e16, es, c_power F (16 - c) _ σ (by omega) (by omega) (by omega), xb2_s, l_mul, ← wgt_pow, nI_1]
      have wl := wgt_le c x hc (hr + 1)
      have w40 := p16 (show hr + 1 ≤ 10 by omega)
      rw [l_cmp0 (by omega)]
      have esm : fb_sm (drF H D c t s hr) (x + 1) = fb_sm (drF H D c t s hr) x + drF H D c t s hr x := fb_sm_succ _ _
      by_cases q0 : wgt c x (hr + 1) = 0
      · rw [if_pos q0, if_pos (show (0 : Int32) ≤ 0 by decide)]
        obtain ⟨σ', z1, z2⟩ := ih (x + 1) σ (by omega) (by omega) hC hD
        refine ⟨σ', ?_, z2⟩
        rw [← z1, esm]
        have : drF H D c t s hr x = 0 := by unfold drF; rw [q0, ite_self]
        rw [this]; rfl
      · rw [if_neg q0, if_neg (show ¬ ((1 : Int32) ≤ 0) by decide)]
        obtain ⟨σ1, b1, b2, b3⟩ := c_tellsBehind F t hr (nI x) H (Dx D x t) (by omega) hB ht (by omega) (fun h hh => by
          have := hasB_t x h (by omega) (by omega)
          apply propext
          show hasB (nI x) h ↔ (if x.testBit h then 1 else 0) = 1
          rw [this]
          cases x.testBit h with
          | true => simp
          | false => simp) (fun h _ => rfl) σ hC (CD_x hD x t)
        rw [b1, xb2_s, c_hold, xb2_s]
        obtain ⟨σ', z1, z2⟩ := ih (x + 1) σ1 (by omega) (by omega) (CH_l hC b2) (CD_l hD b2)
        refine ⟨σ', ?_, xFr_tr b2 z2⟩
        rw [← z1, esm]
        unfold drF
        by_cases q2 : tlB H (Dx D x t) t s hr = true
        · rw [bI_t (tlB_t q2), if_neg (by decide), if_pos q2, l_add]
        · rw [bI_f (tlB_f q2), if_pos rfl, if_neg q2]; rfl
