theorem shrL (x k : Nat) (hx : x < 2 ^ 63) (hk : k < 64) : lN x >>> (Int32.toInt64 (nI k) &&& 63) = lN (x / 2 ^ k) := by
  have e : ∀ k, k < 64 → ((Int32.toInt64 (nI k) &&& 63).toBitVec.smod 64).toNat = k := by decide +kernel
  apply Int64.toInt_inj.mp
  have h2 : x / 2 ^ k ≤ x := Nat.div_le_self _ _
  have e2 : (lN x >>> (Int32.toInt64 (nI k) &&& 63)).toInt = ((lN x).toBitVec.sshiftRight' ((Int32.toInt64 (nI k) &&& 63).toBitVec.smod 64)).toInt := rfl
  rw [e2, BitVec.toInt_sshiftRight', e k hk, Int.shiftRight_eq_div_pow]
  show (lN x).toInt / _ = _
  rw [l_toInt hx, l_toInt (by omega)]
  norm_cast
theorem bitL1 (x k : Nat) (hx : x < 2 ^ 63) (hk : k < 64) : (lg_cmp ((lN x >>> (Int32.toInt64 (nI k) &&& 63)) &&& 1) 1 = 0) = (x.testBit k = true) := by
  rw [shrL x k hx hk, show (1 : Int64) = lN 1 from rfl, fb_andL, Nat.and_one_is_mod, Nat.testBit_eq_decide_div_mod_eq]
  apply propext
  by_cases q : x / 2 ^ k % 2 = 1
  · rw [q]; simp; decide
  · have : x / 2 ^ k % 2 = 0 := by omega
    rw [this]; simp; decide
/-- the i-th that holds, of those below n -/
def kth (s : Nat → Bool) (i : Nat) : Nat → Int32
  | 0 => -1
  | n + 1 => if s n && decide (fb_ct s n = i) then nI n else kth s i n
theorem kth_stop {s : Nat → Bool} {i n : Nat} (h : i < fb_ct s n) : ∀ d, kth s i (n + d) = kth s i n
  | 0 => rfl
  | d + 1 => by
    show (if s (n + d) && decide (fb_ct s (n + d) = i) then _ else kth s i (n + d)) = _
    have := fb_ct_step s n d
    rw [decide_eq_false (by omega), Bool.and_false, kth_stop h d]; rfl
theorem kth_not {s : Nat → Bool} {i : Nat} : ∀ n, fb_ct s n ≤ i → kth s i n = -1
  | 0, _ => rfl
  | n + 1, h => by
    rw [fb_ct_succ] at h
    show (if s n && decide (fb_ct s n = i) then _ else kth s i n) = _
    cases q : s n with
    | false => rw [q] at h; exact kth_not n (by omega)
    | true =>
      rw [q] at h
      simp only [↓reduceIte] at h
      rw [decide_eq_false (by omega)]
      exact kth_not n (by omega)
theorem c_kthL (F z i : Nat) (hz : z < 2 ^ 63) (hi : i < 100) (σ : xSt) : ∀ (fu n : Nat), n ≤ 64 → 64 < n + fu → fb_ct (fun p => z.testBit p) n ≤ i →
    mX8_together_L38 F fu (lN z) (nI (i - fb_ct (fun p => z.testBit p) n)) (nI n) σ = some (kth (fun p => z.testBit p) i 64, σ) := by
  intro fu
  induction fu with
  | zero => intro n a b; omega
  | succ fu ih =>
    intro n a b hc
    show mX8_together_S38 F (mX8_together_L38 F fu) (lN z) (nI (i - fb_ct (fun p => z.testBit p) n)) (nI n) σ = _
    unfold mX8_together_S38 mX8_together_L73 mX8_together_L61 mX8_together_L67
    by_cases q : n = 64
    · subst q
      rw [if_pos (by decide), kth_not 64 hc]
    · rw [if_neg (show ¬ ((64 : Int32) ≤ nI n) from nI_ge (b := 64) (by omega) (by omega))]
      simp only [bitL1 z n hz (show n < 64 by omega), nI_1]
      have es : fb_ct (fun p => z.testBit p) (n + 1) = fb_ct (fun p => z.testBit p) n + (if z.testBit n then 1 else 0) := rfl
      by_cases q1 : z.testBit n = true
      · rw [if_pos q1]
        simp only [nI_eq0 (show i - fb_ct (fun p => z.testBit p) n < 2 ^ 31 by omega)]
        rw [q1] at es
        simp only [↓reduceIte] at es
        by_cases q2 : i - fb_ct (fun p => z.testBit p) n = 0
        · rw [if_pos q2]
          obtain ⟨d, hd⟩ : ∃ d, 64 = (n + 1) + d := ⟨64 - (n + 1), by omega⟩
          rw [hd, kth_stop (by omega) d]
          show _ = some (if z.testBit n && decide (fb_ct (fun p => z.testBit p) n = i) then nI n else _, σ)
          rw [q1, decide_eq_true (by omega)]; rfl
        · rw [if_neg q2]
          have em : nI (i - fb_ct (fun p => z.testBit p) n) + (-1) = nI (i - fb_ct (fun p => z.testBit p) (n + 1)) := by
            obtain ⟨j, hj⟩ : ∃ j, i - fb_ct (fun p => z.testBit p) n = j + 1 := ⟨i - fb_ct (fun p => z.testBit p) n - 1, by omega⟩
            rw [hj, pk_m1]
            congr 1
            omega
          rw [em]
          exact ih (n + 1) (by omega) (by omega) (by omega)
      · rw [if_neg q1]
        rw [if_neg q1] at es
        rw [show fb_ct (fun p => z.testBit p) n = fb_ct (fun p => z.testBit p) (n + 1) by omega]
        exact ih (n + 1) (by omega) (by omega) (by omega)
