theorem lgc_pos (x y : Int64) : (0 < lg_cmp x y) = (y < x) := propext (by
  unfold lg_cmp
  by_cases h : y < x
  · rw [if_pos h]; exact ⟨fun _ => h, fun _ => by decide⟩
  · rw [if_neg h]
    by_cases h2 : x = y
    · rw [if_pos h2]; exact ⟨fun q => absurd q (by decide), fun q => absurd q h⟩
    · rw [if_neg h2]; exact ⟨fun q => absurd q (by decide), fun q => absurd q h⟩)
theorem lgc_le (x y : Int64) : (lg_cmp x y ≤ 0) = ¬ (y < x) := propext (by
  unfold lg_cmp
  by_cases h : y < x
  · rw [if_pos h]; exact ⟨fun q => absurd q (by decide), fun q => absurd h q⟩
  · rw [if_neg h]
    by_cases h2 : x = y
    · rw [if_pos h2]; exact ⟨fun _ => h, fun _ => by decide⟩
    · rw [if_neg h2]; exact ⟨fun _ => h, fun _ => by decide⟩)
theorem lsum_lt {a b n : Nat} (ha : a < 2 ^ 31) (hb : b < 2 ^ 31) (hn : n < 2 ^ 31) : (Int32.toInt64 (nI n) < Int32.toInt64 (nI a) + Int32.toInt64 (nI b)) = (n < a + b) := propext (by
  rw [nI_l ha, nI_l hb, nI_l hn, lN_add]
  exact pk_lLT (by omega) (by omega))
theorem xcp_ok {a c b : Nat} (h1 : a + b ≤ 60) (h2 : c + b ≤ 60) : xcp (nI a) (nI c) (nI b) = true := by
  unfold xcp
  simp only [Bool.and_eq_true, Bool.not_eq_true', decide_eq_false_iff_not, decide_eq_true_eq]
  rw [nI_clamp (by omega), nI_clamp (by omega), nI_clamp (by omega)]
  exact ⟨⟨⟨⟨nI_pos (by omega), nI_pos (by omega)⟩, nI_pos (by omega)⟩, h1⟩, h2⟩
theorem m_copyX (F : Nat) (σ : xSt) : mX9_copy_L111 F σ = some ((-10) - 2, xsI σ 37 2) := rfl
theorem c_copyX (F : Nat) (σ : xSt) : mX8_copy_L102 F σ = some ((-10) - 2, xsI σ 0 2) := rfl
set_option maxHeartbeats 1000000 in
theorem p_copy (F : Nat) (hF : 5000 ≤ F) : zP_copy F Rel := by
  intro σc σm hR s i t j n
  unfold mX8_copy mX9_copy mX8_copy_L14 mX9_copy_L14
  by_cases h1 : 0 ≤ s ∧ s ≤ 3
  · by_cases h2 : 0 ≤ t ∧ t ≤ 3
    · simp only [c_noSheet, m_isSheet, bI_nf h1, bI_t h1, bI_nf h2, bI_t h2, xb1_s, xb2_s, xck_1, i10, i00, i11, ↓reduceIte]
      obtain ⟨k, hk, rfl⟩ := rngI (n := 3) (by decide) (by decide) h1
      obtain ⟨k2, hk2, rfl⟩ := rngI (n := 3) (by decide) (by decide) h2
      have e1 := xin_nI (n := k) (N := 4) (by omega) (by omega)
      have e2 := xin_nI (n := k2) (N := 4) (by omega) (by omega)
      simp only [e1, e2, nI_clamp (show k < 2 ^ 31 by omega), nI_clamp (show k2 < 2 ^ 31 by omega), c_isLost, xb1_s, xb2_s, xck_1, i10, i00, i11, ↓reduceIte]
      rcases RSh_cases (hR.2.2.2.2.2.1 k (by omega)) with ⟨q1, q2⟩ | ⟨q1, q2, n1, f1, a1, a2, a3, a4, a5, a6, a7, a8⟩
      · simp only [bI_t q1, q2, xb1_s, xb2_s, xck_1, i10, i00, i11, ↓reduceIte]
        exact ⟨_, _, _, rfl, rfl, Rel_fd hR 1⟩
      · rcases RSh_cases (hR.2.2.2.2.2.1 k2 (by omega)) with ⟨z1, z2⟩ | ⟨z1, z2, n2, f2, b1, b2, b3, b4, b5, b6, b7, b8⟩
        · simp only [bI_f q1, q2, bI_t z1, z2, xb1_s, xb2_s, xck_1, i10, i00, i11, ↓reduceIte]
          exact ⟨_, _, _, rfl, rfl, Rel_fd hR 1⟩
        · simp only [bI_f q1, q2, bI_f z1, z2, a4, b4, a6, b6, a7, b7, xb1_s, xb2_s, xck_1, i10, i00, i11, ↓reduceIte]
          by_cases hf : nI f1 = nI f2
          · simp only [hf, xb1_s, xb2_s, xck_1, i10, i00, i11, ↓reduceIte]
            by_cases hn : n < 0
            · simp only [hn, m_copyX, c_copyX, xb1_s, xb2_s, xck_1, i10, i00, i11, ↓reduceIte]
              refine ⟨_, _, _, rfl, ?_, Rel_fd hR 2⟩
              by_cases y1 : i < 0
              · simp only [y1, xb1_s, xb2_s, xck_1, i10, i00, i11, ↓reduceIte]
              · by_cases y2 : j < 0
                · simp only [y1, y2, xb1_s, xb2_s, xck_1, i10, i00, i11, ↓reduceIte]
                · simp only [y1, y2, xb1_s, xb2_s, xck_1, i10, i00, i11, ↓reduceIte]
            · obtain ⟨zs, ds, r1, r2⟩ := c_lacksRun F k n1 a1 i n hn σc a3
              obtain ⟨zt, dt, r3, r4⟩ := c_lacksRun F k2 n2 b1 j n hn σc b3
              simp only [hn, r1, r3, m_copyX, c_copyX, lgc_pos, lgc_le, xb1_s, xb2_s, xck_1, i10, i00, i11, ↓reduceIte]
              obtain ⟨b, hb, rfl⟩ := nI_of hn
              by_cases hzs : zs
              · obtain ⟨a, b', e3, e4, e5⟩ := r2.mp hzs
                have e6 := (nI_eq hb (by omega)).mp e4
                subst e6
                subst e3
                have y1 : ¬ nI a < 0 := nI_pos (by omega)
                by_cases hzt : zt
                · obtain ⟨c, b', d3, d4, d5⟩ := r4.mp hzt
                  have d6 := (nI_eq hb (by omega)).mp d4
                  subst d6
                  subst d3
                  have y2 : ¬ nI c < 0 := nI_pos (by omega)
                  have y3 : ¬ n1 < a + b := by omega
                  have y4 : ¬ n2 < c + b := by omega
                  simp only [bI_nf hzs, bI_nf hzt, y1, y2, y3, y4, lsum_lt (show a < 2 ^ 31 by omega) hb (show n1 < 2 ^ 31 by omega), lsum_lt (show c < 2 ^ 31 by omega) hb (show n2 < 2 ^ 31 by omega), xcp_ok (show a + b ≤ 60 by omega) (show c + b ≤ 60 by omega), nI_clamp (show a < 2 ^ 31 by omega), nI_clamp (show b < 2 ^ 31 by omega), nI_clamp (show c < 2 ^ 31 by omega), not_false_eq_true, xb1_s, xb2_s, xck_1, i10, i00, i11, ↓reduceIte]
                  obtain ⟨σ1, w1, w2, w3⟩ := m_copyL1 F k a k2 c b (by omega) (by omega) F 0 σm (by omega) (by omega)
                  obtain ⟨⟨r, σ2⟩, x1, x2, x3, x4⟩ := m_copyL2 F k2 c b (by omega) (by omega) F 0 σ1 (by omega) (by omega)
                  dsimp only at x2 x3 x4
                  subst x2
                  refine ⟨1, _, σ2, rfl, ?_, ?_⟩
                  · show mX9_copy_L120 F F (nI k) (nI a) (nI k2) (nI c) (nI b) (nI 0) σm = _
                    rw [w1]
                    exact x1
                  · refine Rel_sh hR (xFr_sF (by simp; omega)) (xFr_tr (xFr_mono w2 (by simp) (by simp)) (xFr_mono x3 (by simp) (by simp))) (fun y hy => ?_)
                    have m32 : xA σ2 32 = xA σm 32 := (x3.2 32 (by decide)).trans (w2.2 32 (by decide))
                    have m33 : xA σ2 33 = xA σm 33 := (x3.2 33 (by decide)).trans (w2.2 33 (by decide))
                    have m34 : xA σ2 34 = xA σm 34 := (x3.2 34 (by decide)).trans (w2.2 34 (by decide))
                    have m35 : xA σ1 35 = xA σm 35 := w2.2 35 (by decide)
                    by_cases hyk : y = k2
                    · subst hyk
                      refine Or.inr ⟨n2, f2, b1, b2, b3, b4, by rw [m32]; exact b5, by rw [m33]; exact b6, by rw [m34]; exact b7, fun z hz => ?_⟩
                      rw [xA_sF, if_pos rfl, x4, m35]
                      unfold va_cpy
                      by_cases q : c ≤ z ∧ z < c + b
                      · rw [if_pos q, if_pos (by omega), w3, if_pos (by omega), show 60 * k + a + (60 * y + z - (60 * y + c)) = 60 * k + (a + (z - c)) by omega]
                        exact a8 _ (by omega)
                      · rw [if_neg q, if_neg (by omega)]
                        exact b8 z hz
                    · refine RSh_fr (hR.2.2.2.2.2.1 y hy) rfl rfl (by rw [xA_sF, if_neg (by omega)]) (by rw [m32]) (by rw [m33]) (by rw [m34]) (fun z hz => ?_)
                      rw [x4, m35, if_neg (by omega)]
                · simp only [bI_nf hzs, bI_nt hzt, y1, xb1_s, xb2_s, xck_1, i10, i00, i11, ↓reduceIte]
                  refine ⟨_, _, _, rfl, ?_, Rel_fd hR 2⟩
                  by_cases y2 : j < 0
                  · simp only [y2, xb1_s, xb2_s, xck_1, i10, i00, i11, ↓reduceIte]
                  · obtain ⟨c, hc, rfl⟩ := nI_of y2
                    have y3 : ¬ n1 < a + b := by omega
                    have y4 : n2 < c + b := Nat.not_le.mp (fun q => hzt (r4.mpr ⟨c, b, rfl, rfl, q⟩))
                    simp only [y2, y3, y4, lsum_lt (show a < 2 ^ 31 by omega) hb (show n1 < 2 ^ 31 by omega), lsum_lt hc hb (show n2 < 2 ^ 31 by omega), not_true_eq_false, xb1_s, xb2_s, xck_1, i10, i00, i11, ↓reduceIte]
              · simp only [bI_nt hzs, xb1_s, xb2_s, xck_1, i10, i00, i11, ↓reduceIte]
                refine ⟨_, _, _, rfl, ?_, Rel_fd hR 2⟩
                by_cases y1 : i < 0
                · simp only [y1, xb1_s, xb2_s, xck_1, i10, i00, i11, ↓reduceIte]
                · obtain ⟨a, ha, rfl⟩ := nI_of y1
                  have y3 : n1 < a + b := Nat.not_le.mp (fun q => hzs (r2.mpr ⟨a, b, rfl, rfl, q⟩))
                  by_cases y2 : j < 0
                  · simp only [y1, y2, xb1_s, xb2_s, xck_1, i10, i00, i11, ↓reduceIte]
                  · simp only [y1, y2, y3, lsum_lt ha hb (show n1 < 2 ^ 31 by omega), xb1_s, xb2_s, xck_1, i10, i00, i11, ↓reduceIte]
          · simp only [hf, xb1_s, xb2_s, xck_1, i10, i00, i11, ↓reduceIte]
            exact ⟨_, _, _, rfl, rfl, Rel_fd hR 4⟩
    · simp only [c_noSheet, m_isSheet, bI_nf h1, bI_t h1, bI_nt h2, bI_f h2, xb1_s, xb2_s, xck_1, i10, i00, i11, ↓reduceIte]
      exact ⟨_, _, _, rfl, rfl, hR⟩
  · simp only [c_noSheet, m_isSheet, bI_nt h1, bI_f h1, xb1_s, xb2_s, xck_1, i10, i00, i11, ↓reduceIte]
    exact ⟨_, _, _, rfl, rfl, hR⟩
