/-! ===== twins: the same, with house and day kept ===== -/
theorem q_thing (F : Nat) (hF : 5000 ≤ F) (H : Hs) (D : Dy) : zP_thing F (RQ H D) := by
  intro σc σm hRR t w
  have hR := hRR.1
  have hH := hRR.2.1
  have hB := hH.1
  have hC := hH.2.1
  obtain ⟨σ', a, b, c0⟩ := m_reads F (by omega) hH.2.2.2.1
  have c : RQ H D σc σ' := RQ_cm hRR xFr_rf c0
  have hb1 := hB.1
  unfold mX8_thing mX9_thing mX6_part mX6_part_L12 mX9_thing_L53 mX9_thing_L55
  rw [m_isThing F t a b hB, xb2_s]
  by_cases h1 : t < 0
  · simp only [h1, not_true_eq_false, false_and, bI_f (show ¬ False from id), xb1_s, xb2_s, xck_1, i10, i00, i11, ↓reduceIte]
    exact ⟨_, _, _, rfl, rfl, c⟩
  · by_cases h2 : t < nI (hT H)
    · obtain ⟨e, he, rfl⟩ := lt_of_nI (by omega) h1 h2
      obtain ⟨k1, k2, k3⟩ := hC.2.1 e he
      obtain ⟨l1, l2, l3⟩ := b.2.1 e he
      have h12 : xI σc (12 + 0) = nI (hT H) := hC.1
      simp only [h1, h2, h12, not_false_eq_true, and_self, bI_t (show True from trivial), m_in, xin_nI (show e < lnE 0 by show e < 6; omega) (by decide), xin_nI (show e < 7 by omega) (by decide), nI_clamp (show e < 2 ^ 31 by omega), k1, k2, k3, l1, l2, l3, xb1_s, xb2_s, xck_1, i10, i00, i11, ↓reduceIte]
      by_cases w0 : w = 0
      · subst w0
        rw [if_pos rfl, bI_t (by decide), if_neg (by decide), if_pos rfl, xb2_s]
        exact ⟨_, _, _, rfl, rfl, c⟩
      · by_cases w1 : w = 1
        · subst w1
          rw [if_neg w0, if_pos rfl, bI_t (by decide), if_neg (by decide), if_neg w0, if_pos rfl, xb2_s]
          exact ⟨_, _, _, rfl, rfl, c⟩
        · by_cases w2 : w = 2
          · subst w2
            rw [if_neg w0, if_neg w1, if_pos rfl, bI_t (by decide), if_neg (by decide), if_neg w0, if_neg w1, xb2_s]
            exact ⟨_, _, _, rfl, rfl, c⟩
          · rw [if_neg w0, if_neg w1, if_neg w2, bI_f (fun q => by
              obtain ⟨j, hj, rfl⟩ := rngI (n := 2) (by decide) (by decide) q
              rcases (show j = 0 ∨ j = 1 ∨ j = 2 by omega) with rfl | rfl | rfl
              · exact w0 rfl
              · exact w1 rfl
              · exact w2 rfl), if_pos rfl, xb2_s]
            exact ⟨_, _, _, rfl, rfl, c⟩
    · have h12 : xI σc (12 + 0) = nI (hT H) := hC.1
      simp only [h1, h2, h12, and_false, bI_f (show ¬ False from id), xb1_s, xb2_s, xck_1, i10, i00, i11, ↓reduceIte]
      exact ⟨_, _, _, rfl, rfl, c⟩
theorem q_count (F : Nat) (hF : 5000 ≤ F) (H : Hs) (D : Dy) : zP_count F (RQ H D) := by
  intro σc σm hRR v
  have hR := hRR.1
  have hH := hRR.2.1
  have hB := hH.1
  have hb1 := hB.1
  unfold mX8_count mX9_count mX9_count_L52 mX9_count_L58
  obtain ⟨σ1, a1, a2⟩ := m_sumOf F v (by omega) hH
  rw [a1, xb2_s]
  have hR1 : RQ H D σc σ1 := RQ_cm hRR xFr_rf a2
  by_cases v0 : v = 0
  · subst v0
    rw [if_pos rfl, if_pos rfl, if_pos rfl]
    exact ⟨_, _, _, by rw [show xI σc (12 + 0) = nI (hT H) from hH.2.1.1], rfl, hR1⟩
  · rw [if_neg v0, if_neg v0, if_neg v0]
    by_cases v1 : v = 1
    · subst v1
      rw [if_pos rfl, if_pos rfl, if_pos rfl]
      exact ⟨_, _, _, by rw [show xI σc (12 + 1) = nI (hP H) from hH.2.1.2.2.1], rfl, hR1⟩
    · rw [if_neg v1, if_neg v1, if_neg v1]
      by_cases v2 : v = 2
      · subst v2
        obtain ⟨n0, B0, c0, m0⟩ := hR.1
        rw [if_pos rfl, if_pos rfl]
        exact ⟨nI n0, σc, σm, by rw [show xI σc (10 + 0) = nI n0 from c0.2.1], by rw [← m0.1]; rfl, hRR⟩
      · rw [if_neg v2, if_neg v2]
        by_cases v3 : v = 3
        · subst v3
          obtain ⟨n0, B0, c0, m0⟩ := hR.2.1
          rw [if_pos rfl, if_pos rfl]
          exact ⟨nI n0, σc, σm, by rw [show xI σc (10 + 1) = nI n0 from c0.2.1], by rw [← m0.1]; rfl, hRR⟩
        · rw [if_neg v3, if_neg v3]
          by_cases v4 : v = 4
          · subst v4
            rw [if_pos rfl, if_pos rfl]
            exact ⟨nI (D 0 0), σc, σm, by rw [show xI σc (14 + 0) = nI (D 0 0) from hH.2.2.1.2.1.1], by rw [hH.2.2.2.2.1.2.1], hRR⟩
          · rw [if_neg v4, if_neg v4]
            by_cases v5 : v = 5
            · subst v5
              rw [if_pos rfl, if_pos rfl]
              obtain ⟨o, ho⟩ := hH.2.2.1.2.2.2.2.1
              exact ⟨nI (D 4 0), σc, σm, by rw [show xI σc (14 + 1) = nI (D 4 0) from ho.1], by rw [hH.2.2.2.2.1.2.2.2.2.1], hRR⟩
            · rw [if_neg v5, if_neg v5]
              by_cases v6 : v = 6
              · subst v6
                rw [if_pos rfl, if_pos rfl]
                obtain ⟨n, h, t, o, s1, s2, s3, s4⟩ := hR.2.2.2.2.1
                exact ⟨nI n, σc, σm, by rw [show xI σc (14 + 2) = nI n from s2.1], by rw [s4.1], hRR⟩
              · rw [if_neg v6, if_neg v6]
                by_cases v7 : v = 7
                · subst v7
                  rw [if_pos rfl, if_pos rfl]
                  obtain ⟨σc', e1, e2⟩ := c_endL F (by omega) F 0 σc (by omega) (by omega) hH
                  unfold mX2_layersAtTheEnd
                  rw [show mX2_layersAtTheEnd_L4 F F 0 0 σc = _ from e1, xb2_s]
                  exact ⟨_, _, _, rfl, rfl, RQ_cm hRR e2 a2⟩
                · rw [if_neg v7, if_neg v7]
                  by_cases v8 : v = 8
                  · subst v8
                    rw [if_pos rfl, if_pos rfl]
                    exact ⟨xI σc 0, σc, σm, rfl, by rw [show xI σc 0 = xI σm 37 from hR.2.2.2.2.2.2], hRR⟩
                  · rw [if_neg v8, if_neg v8]
                    exact ⟨_, _, _, rfl, rfl, hRR⟩
theorem q_last (F : Nat) (hF : 5000 ≤ F) (H : Hs) (D : Dy) : zP_last F (RQ H D) := by
  intro σc σm hRR t s
  have hR := hRR.1
  have hH := hRR.2.1
  have hB := hH.1
  have hb1 := hB.1
  have hb2 := hB.2.1
  unfold mX8_last mX9_last mX8_last_L22 mX9_last_L25 mX9_last_L27
  obtain ⟨σ1, a1, a2⟩ := m_isThing' F t (by omega) hB hH.2.2.2.1
  have hH1 := Hse_m hH a2
  simp only [a1, c_lacksThing F t σc H hH.2.1, xb1_s, xb2_s, xck_1, i10, i00, i11, ↓reduceIte]
  by_cases h2 : ¬ t < 0 ∧ t < nI (hT H)
  · obtain ⟨tt, ht, rfl⟩ := lt_of_nI (by omega) h2.1 h2.2
    obtain ⟨σ2, d1, d2⟩ := m_isPerson' F s (by omega) hB hH1.2.2.2.1
    have hH2 := Hse_m hH1 d2
    simp only [bI_nf h2, bI_t h2, d1, c_lacksPerson F s σc H hH.2.1, xb1_s, xb2_s, xck_1, i10, i00, i11, ↓reduceIte]
    by_cases h3 : ¬ s < 0 ∧ s < nI (hP H)
    · obtain ⟨ss, hs, rfl⟩ := lt_of_nI (by omega) h3.1 h3.2
      simp only [bI_nf h3, bI_t h3, xb1_s, xb2_s, xck_1, i10, i00, i11, ↓reduceIte]
      obtain ⟨σc', e1, e2⟩ := c_lastL F tt ss (by omega) ht 24 F σc (by omega) (by omega) hH2
      obtain ⟨σ3, f1, f2, f3⟩ := m_reads F (by omega) hH2.2.2.2.1
      obtain ⟨σ4, g1, g2, g3, g4⟩ := m_asTold F f2 (MR_fr hH2.2.2.2.2.1 f3) hH.2.2.2.2.2.1 hH.2.2.2.2.2.2
      obtain ⟨σ5, k1, k2, k3⟩ := m_begins F H (by omega) hB σ4
      obtain ⟨σ6, l1, l2⟩ := m_lastL F tt ss (by omega) hB ht hH.2.2.2.2.2.1 F 0 σ5 (by omega) (by omega) (MH_l g3 k2) (MD_l g2 k2) k3
      refine ⟨lastS (tlB H D tt ss) 24, σc', σ6, e1, ?_, RQ_cm hRR e2 (xFr_tr (xFr_tr (xFr_tr (xFr_tr (xFr_tr a2 d2) f3) g4) (xFr_mono k2 (by simp) (by simp))) l2)⟩
      unfold mX9_lastOf
      rw [f1, xb1_s, g1, xb1_s, k1, xb1_s]
      rw [show mX9_lastOf_L17 F F (nI tt) (nI ss) (-1) 0 σ5 = _ from l1, xb2_s]
    · simp only [bI_nt h3, bI_f h3, xb1_s, xb2_s, xck_1, i10, i00, i11, ↓reduceIte]
      exact ⟨_, _, _, rfl, rfl, RQ_cm hRR xFr_rf (xFr_tr a2 d2)⟩
  · simp only [bI_nt h2, bI_f h2, xb1_s, xb2_s, xck_1, i10, i00, i11, ↓reduceIte]
    exact ⟨_, _, _, rfl, rfl, RQ_cm hRR xFr_rf a2⟩
theorem q_draughts (F : Nat) (hF : 5000 ≤ F) (H : Hs) (D : Dy) : zP_draughts F (RQ H D) := by
  intro σc σm hRR c t s h w
  have hR := hRR.1
  have hH := hRR.2.1
  have hB := hH.1
  have hb1 := hB.1
  have hb2 := hB.2.1
  unfold mX8_draughts mX9_draughts mX8_draughts_L55 mX8_longRefusal mX9_draughts_L41 mX9_draughts_L42 mX9_draughts_L73 mX9_draughts_L78 mX9_no
  have ec : (0 ≤ c ∧ c ≤ 16) ↔ ¬ c < 0 ∧ ¬ (16 < c) := by rw [Int32.not_lt, Int32.not_lt]
  by_cases h1 : 0 ≤ c ∧ c ≤ 16
  · obtain ⟨h1a, h1b⟩ := ec.mp h1
    obtain ⟨c', hc', rfl⟩ := rngI (n := 16) (by decide) (by decide) h1
    simp only [m_in, bI_t h1, xb1_s, xb2_s, xck_1, i10, i00, i11, ↓reduceIte]
    simp only [h1a, h1b, xb1_s, xb2_s, xck_1, i10, i00, i11, ↓reduceIte]
    obtain ⟨σ1, a1, a2⟩ := m_isThing' F t (by omega) hB hH.2.2.2.1
    have hH1 := Hse_m hH a2
    simp only [a1, c_lacksThing F t σc H hH.2.1, xb1_s, xb2_s, xck_1, i10, i00, i11, ↓reduceIte]
    by_cases h2 : ¬ t < 0 ∧ t < nI (hT H)
    · obtain ⟨tt, ht, rfl⟩ := lt_of_nI (by omega) h2.1 h2.2
      obtain ⟨σ2, d1, d2⟩ := m_isPerson' F s (by omega) hB hH1.2.2.2.1
      have hH2 := Hse_m hH1 d2
      simp only [bI_nf h2, bI_t h2, d1, c_lacksPerson F s σc H hH.2.1, xb1_s, xb2_s, xck_1, i10, i00, i11, ↓reduceIte]
      by_cases h3 : ¬ s < 0 ∧ s < nI (hP H)
      · obtain ⟨ss, hs, rfl⟩ := lt_of_nI (by omega) h3.1 h3.2
        have eh : (0 ≤ h ∧ h ≤ 9) ↔ ¬ h < 0 ∧ ¬ (9 < h) := by rw [Int32.not_lt, Int32.not_lt]
        simp only [bI_nf h3, bI_t h3, xb1_s, xb2_s, xck_1, i10, i00, i11, ↓reduceIte]
        by_cases h5 : 0 ≤ h ∧ h ≤ 9
        · obtain ⟨h5a, h5b⟩ := eh.mp h5
          obtain ⟨hr, hr1, rfl⟩ := rngI (n := 9) (by decide) (by decide) h5
          simp only [bI_t h5, xb1_s, xb2_s, xck_1, i10, i00, i11, ↓reduceIte]
          simp only [h5a, h5b, xb1_s, xb2_s, xck_1, i10, i00, i11, ↓reduceIte]
          have ew : (0 ≤ w ∧ w ≤ 1) ↔ ¬ w < 0 ∧ w ≤ 1 := by rw [Int32.not_lt]
          by_cases h4 : 0 ≤ w ∧ w ≤ 1
          · obtain ⟨h4a, h4b⟩ := ew.mp h4
            simp only [bI_t h4, xb1_s, xb2_s, xck_1, i10, i00, i11, ↓reduceIte]
            simp only [h4a, h4b, xb1_s, xb2_s, xck_1, i10, i00, i11, ↓reduceIte]
            have hpw : 2 ^ (hr + 1) ≤ 1024 := Nat.le_trans (Nat.pow_le_pow_right (by omega) (show hr + 1 ≤ 10 by omega)) (by decide)
            obtain ⟨σc', e1, e2⟩ := c_drL F c' tt ss hr w H D (by omega) hB ht hc' (by omega) F 0 σc (Nat.zero_le _) (by omega) hH.2.1 hH.2.2.1
            obtain ⟨σ3, f1, f2, f3⟩ := m_reads F (by omega) hH2.2.2.2.1
            obtain ⟨σ4, g1, g2, g3, g4⟩ := m_asTold F f2 (MR_fr hH2.2.2.2.2.1 f3) hH.2.2.2.2.2.1 hH.2.2.2.2.2.2
            have g22 : xI σ4 22 = 0 := by
              have := g1
              unfold mX9_asTold at this
              cases this
              rw [xI_sI, if_neg (by decide), xI_sI, if_pos rfl]
            have f23 : xFr [23] [] σ4 (xsI σ4 23 (nI tt)) := xFr_sI (by decide)
            obtain ⟨σ6, l1, l2⟩ := m_drL F c' tt ss hr w H D (by omega) hB ht hc' (by omega) F 0 0 (xsI σ4 23 (nI tt)) (Nat.zero_le _) (by omega) (MH_fr g3 f23 (by simp) (by simp)) (MD_x0 (by omega) g2 g22)
            have hRel : RQ H D σc' σ6 := RQ_cm hRR e2 (xFr_tr (xFr_tr (xFr_tr (xFr_tr (xFr_tr a2 d2) f3) g4) (xFr_mono f23 (by simp) (by simp))) l2)
            unfold mX9_draughtsOf
            rw [f1, xb1_s, g1, xb1_s, nI_1]
            rw [show mX9_draughtsOf_L19 F F (nI c') (nI tt) (nI ss) (nI hr) w 0 0 (xsI σ4 23 (nI tt)) = _ from l1, show mX8_draughts_L73 F F (nI c') (nI tt) (nI ss) (nI hr) w (nI (hr + 1)) 0 0 σc = _ from e1]
            unfold mX8_draughts_L149 mX9_draughtsOf_L120 mX8_draughts_L187
            have hn : fb_sm (drF H D c' tt ss hr) (2 ^ (hr + 1)) < 2 ^ 62 := dr_le hc' (by omega) hpw
            have h16 := p16 (show hr + 1 ≤ 10 by omega)
            have h160 : 0 < 16 ^ (hr + 1) := Nat.pow_pos (by omega)
            rw [show (16 : Int32) = nI 16 from rfl, c_power F 16 (hr + 1) σc' (by omega) (by omega) (by omega), xb2_s, c_become F _ _ σc' (by omega) hn (by omega), xb1_s, shl4 hr (by omega), m_lowest F _ _ w σ6 (by omega) hn (by omega) h160, xb2_s, xb2_s]
            generalize fb_sm (drF H D c' tt ss hr) (2 ^ (hr + 1)) = X at *
            have c0 : xL (xsL (xsL σc' 0 (lN (frA X (16 ^ (hr + 1))))) 1 (lN (frB X (16 ^ (hr + 1))))) 0 = lN (frA X (16 ^ (hr + 1))) := by rw [xL_sL, if_neg (by decide), xL_sL, if_pos rfl]
            have c1 : xL (xsL (xsL σc' 0 (lN (frA X (16 ^ (hr + 1))))) 1 (lN (frB X (16 ^ (hr + 1))))) 1 = lN (frB X (16 ^ (hr + 1))) := by rw [xL_sL, if_pos rfl]
            rw [c0, c1]
            by_cases q : w = 0
            · simp only [q, ↓reduceIte]; exact ⟨_, _, _, rfl, rfl, hRel⟩
            · simp only [q, ↓reduceIte]; exact ⟨_, _, _, rfl, rfl, hRel⟩
          · simp only [bI_f h4, xb1_s, xb2_s, xck_1, i10, i00, i11, ↓reduceIte]
            refine ⟨_, σc, _, ?_, rfl, RQ_cm hRR xFr_rf (xFr_tr a2 d2)⟩
            by_cases q : w < 0
            · simp only [q, xb1_s, xb2_s, xck_1, i10, i00, i11, ↓reduceIte]
            · have q2 : ¬ w ≤ 1 := fun z => h4 (ew.mpr ⟨q, z⟩)
              simp only [q, q2, xb1_s, xb2_s, xck_1, i10, i00, i11, ↓reduceIte]
        · simp only [bI_f h5, xb1_s, xb2_s, xck_1, i10, i00, i11, ↓reduceIte]
          refine ⟨_, σc, _, ?_, rfl, RQ_cm hRR xFr_rf (xFr_tr a2 d2)⟩
          by_cases q : h < 0
          · simp only [q, xb1_s, xb2_s, xck_1, i10, i00, i11, ↓reduceIte]
          · have q2 : (9 : Int32) < h := by
              by_cases z : (9 : Int32) < h
              · exact z
              · exact absurd (eh.mpr ⟨q, z⟩) h5
            simp only [q, q2, xb1_s, xb2_s, xck_1, i10, i00, i11, ↓reduceIte]
      · simp only [bI_nt h3, bI_f h3, xb1_s, xb2_s, xck_1, i10, i00, i11, ↓reduceIte]
        exact ⟨_, _, _, rfl, rfl, RQ_cm hRR xFr_rf (xFr_tr a2 d2)⟩
    · simp only [bI_nt h2, bI_f h2, xb1_s, xb2_s, xck_1, i10, i00, i11, ↓reduceIte]
      exact ⟨_, _, _, rfl, rfl, RQ_cm hRR xFr_rf a2⟩
  · simp only [m_in, bI_f h1, xb1_s, xb2_s, xck_1, i10, i00, i11, ↓reduceIte]
    refine ⟨_, σc, _, ?_, rfl, hRR⟩
    by_cases q : c < 0
    · simp only [q, xb1_s, xb2_s, xck_1, i10, i00, i11, ↓reduceIte]
    · have q2 : (16 : Int32) < c := by
        by_cases z : (16 : Int32) < c
        · exact z
        · exact absurd (ec.mpr ⟨q, z⟩) h1
      simp only [q, q2, xb1_s, xb2_s, xck_1, i10, i00, i11, ↓reduceIte]
theorem q_found (F : Nat) (hF : 5000 ≤ F) (H : Hs) (D : Dy) : zP_found F (RQ H D) := by
  intro σc σm hRR x t s w
  have hR := hRR.1
  have hH := hRR.2.1
  have hB := hH.1
  have hb1 := hB.1
  have hb2 := hB.2.1
  unfold mX8_found mX9_found mX8_found_L43 mX8_longRefusal mX9_found_L31 mX9_found_L32 mX9_found_L61 mX9_found_L66 mX9_no
  have ex : (0 ≤ x ∧ x ≤ 16777215) ↔ ¬ x < 0 ∧ ¬ (16777215 < x) := by rw [Int32.not_lt, Int32.not_lt]
  by_cases h1 : 0 ≤ x ∧ x ≤ 16777215
  · obtain ⟨h1a, h1b⟩ := ex.mp h1
    obtain ⟨x', hx', rfl⟩ := rngI (n := 16777215) (by decide) (by decide) h1
    simp only [m_in, bI_t h1, xb1_s, xb2_s, xck_1, i10, i00, i11, ↓reduceIte]
    simp only [h1a, h1b, xb1_s, xb2_s, xck_1, i10, i00, i11, ↓reduceIte]
    obtain ⟨σ1, a1, a2⟩ := m_isThing' F t (by omega) hB hH.2.2.2.1
    have hH1 := Hse_m hH a2
    simp only [a1, c_lacksThing F t σc H hH.2.1, xb1_s, xb2_s, xck_1, i10, i00, i11, ↓reduceIte]
    by_cases h2 : ¬ t < 0 ∧ t < nI (hT H)
    · obtain ⟨tt, ht, rfl⟩ := lt_of_nI (by omega) h2.1 h2.2
      obtain ⟨σ2, d1, d2⟩ := m_isPerson' F s (by omega) hB hH1.2.2.2.1
      have hH2 := Hse_m hH1 d2
      simp only [bI_nf h2, bI_t h2, d1, c_lacksPerson F s σc H hH.2.1, xb1_s, xb2_s, xck_1, i10, i00, i11, ↓reduceIte]
      by_cases h3 : ¬ s < 0 ∧ s < nI (hP H)
      · obtain ⟨ss, hs, rfl⟩ := lt_of_nI (by omega) h3.1 h3.2
        have ew : (0 ≤ w ∧ w ≤ 1) ↔ ¬ w < 0 ∧ w ≤ 1 := by rw [Int32.not_lt]
        simp only [bI_nf h3, bI_t h3, xb1_s, xb2_s, xck_1, i10, i00, i11, ↓reduceIte]
        by_cases h4 : 0 ≤ w ∧ w ≤ 1
        · obtain ⟨h4a, h4b⟩ := ew.mp h4
          simp only [bI_t h4, xb1_s, xb2_s, xck_1, i10, i00, i11, ↓reduceIte]
          simp only [h4a, h4b, xb1_s, xb2_s, xck_1, i10, i00, i11, ↓reduceIte]
          obtain ⟨σc', e1, e2⟩ := c_foundL F tt ss x' w (by omega) ht (by omega) F 0 σc (by omega) (by omega) hH2
          obtain ⟨σ3, f1, f2, f3⟩ := m_reads F (by omega) hH2.2.2.2.1
          obtain ⟨σ4, g1, g2, g3, g4⟩ := m_asTold F f2 (MR_fr hH2.2.2.2.2.1 f3) hH.2.2.2.2.2.1 hH.2.2.2.2.2.2
          obtain ⟨σ5, k1, k2, k3⟩ := m_begins F H (by omega) hB σ4
          obtain ⟨σ6, l1, l2⟩ := m_foundL F tt ss x' w (by omega) hB ht (by omega) hH.2.2.2.2.2.1 F 0 σ5 (by omega) (by omega) (MH_l g3 k2) (MD_l g2 k2) k3
          have hRel : RQ H D σc' σ6 := RQ_cm hRR e2 (xFr_tr (xFr_tr (xFr_tr (xFr_tr (xFr_tr a2 d2) f3) g4) (xFr_mono k2 (by simp) (by simp))) l2)
          unfold mX9_foundOf
          rw [f1, xb1_s, g1, xb1_s, k1, xb1_s]
          rw [show mX9_foundOf_L18 F F (nI x') (nI tt) (nI ss) w 0 0 σ5 = _ from l1, show mX8_found_L55 F F (nI x') (nI tt) (nI ss) w 0 0 σc = _ from e1]
          unfold mX8_found_L98 mX9_foundOf_L68 mX9_foundOf_L84 mX8_found_L135
          have hn := @fdN_le H D tt ss x' 24
          have hp : pc x' 24 ≤ 24 := fb_ct_le _ 24
          rw [c_bitCount F x' (by omega), xb2_s, l_i (by omega), l_i (by omega), c_become F _ _ σc' (by omega) (by omega) (by omega), xb1_s, m_ones F x' (by omega) (by omega), xb2_s, l_i (show pc x' 24 < 2 ^ 31 by omega)]
          simp only [nI_eq0 (show x' < 2 ^ 31 by omega)]
          have c0 : xL (xsL (xsL σc' 0 (lN (frA (fdN H D tt ss x' 24) (pc x' 24)))) 1 (lN (frB (fdN H D tt ss x' 24) (pc x' 24)))) 0 = lN (frA (fdN H D tt ss x' 24) (pc x' 24)) := by rw [xL_sL, if_neg (by decide), xL_sL, if_pos rfl]
          have c1 : xL (xsL (xsL σc' 0 (lN (frA (fdN H D tt ss x' 24) (pc x' 24)))) 1 (lN (frB (fdN H D tt ss x' 24) (pc x' 24)))) 1 = lN (frB (fdN H D tt ss x' 24) (pc x' 24)) := by rw [xL_sL, if_pos rfl]
          rw [c0, c1]
          have em : (if x' = 0 then xb2 (mX9_lowest F (lN (fdN H D tt ss x' 24)) 1 w σ6) (fun r86 σ86 => some (r86, σ86)) else xb2 (mX9_lowest F (lN (fdN H D tt ss x' 24)) (lN (pc x' 24)) w σ6) (fun r86 σ86 => some (r86, σ86))) = some (if w = 0 then lN (frA (fdN H D tt ss x' 24) (pc x' 24)) else lN (frB (fdN H D tt ss x' 24) (pc x' 24)), σ6) := by
            by_cases q : x' = 0
            · have z : fdN H D tt ss x' 24 = 0 := fb_ct_zero.mpr (fun j _ => by rw [q, Nat.zero_testBit, Bool.false_and])
              have z2 : pc x' 24 = 0 := fb_ct_zero.mpr (fun j _ => by rw [q, Nat.zero_testBit])
              rw [if_pos q, z, z2, show (1 : Int64) = lN 1 from rfl, m_lowest F 0 1 w σ6 (by omega) (by omega) (by omega) (by omega), xb2_s]
              rfl
            · have z2 : 0 < pc x' 24 := by
                rcases Nat.eq_zero_or_pos (pc x' 24) with e | e
                · exact absurd (pc0_iff (by omega) e) q
                · exact e
              rw [if_neg q, m_lowest F _ _ w σ6 (by omega) (by omega) (by omega) z2, xb2_s]
          rw [em, xb2_s]
          by_cases q : w = 0
          · simp only [q, ↓reduceIte]; exact ⟨_, _, _, rfl, rfl, hRel⟩
          · simp only [q, ↓reduceIte]; exact ⟨_, _, _, rfl, rfl, hRel⟩
        · simp only [bI_f h4, xb1_s, xb2_s, xck_1, i10, i00, i11, ↓reduceIte]
          refine ⟨_, σc, _, ?_, rfl, RQ_cm hRR xFr_rf (xFr_tr a2 d2)⟩
          by_cases q : w < 0
          · simp only [q, xb1_s, xb2_s, xck_1, i10, i00, i11, ↓reduceIte]
          · have q2 : ¬ w ≤ 1 := fun z => h4 (ew.mpr ⟨q, z⟩)
            simp only [q, q2, xb1_s, xb2_s, xck_1, i10, i00, i11, ↓reduceIte]
      · simp only [bI_nt h3, bI_f h3, xb1_s, xb2_s, xck_1, i10, i00, i11, ↓reduceIte]
        exact ⟨_, _, _, rfl, rfl, RQ_cm hRR xFr_rf (xFr_tr a2 d2)⟩
    · simp only [bI_nt h2, bI_f h2, xb1_s, xb2_s, xck_1, i10, i00, i11, ↓reduceIte]
      exact ⟨_, _, _, rfl, rfl, RQ_cm hRR xFr_rf a2⟩
  · simp only [m_in, bI_f h1, xb1_s, xb2_s, xck_1, i10, i00, i11, ↓reduceIte]
    refine ⟨_, σc, _, ?_, rfl, hRR⟩
    by_cases q : x < 0
    · simp only [q, xb1_s, xb2_s, xck_1, i10, i00, i11, ↓reduceIte]
    · have q2 : (16777215 : Int32) < x := by
        by_cases z : (16777215 : Int32) < x
        · exact z
        · exact absurd (ex.mpr ⟨q, z⟩) h1
      simp only [q, q2, xb1_s, xb2_s, xck_1, i10, i00, i11, ↓reduceIte]
theorem q_tells (F : Nat) (hF : 5000 ≤ F) (H : Hs) (D : Dy) : zP_tells F (RQ H D) := by
  intro σc σm hRR h t
  have hR := hRR.1
  have hH := hRR.2.1
  have hB := hH.1
  have hb1 := hB.1
  unfold mX8_tells mX9_tells mX8_tells_L23 mX9_tells_L29 mX9_tells_L20 mX8_tells_L26 mX8_tells_L54 mX9_tells_L31 mX9_tellsOf mX9_tellsOf_L22
  by_cases h1 : 0 ≤ h ∧ h ≤ 23
  · obtain ⟨hr, hr1, rfl⟩ := rngI (n := 23) (by decide) (by decide) h1
    simp only [c_noHour, m_isHour, bI_nf h1, bI_t h1, xb1_s, xb2_s, xck_1, i10, i00, i11, ↓reduceIte]
    by_cases h0 : t = -1
    · obtain ⟨σc', b1, b2⟩ := c_allTell F hr (by omega) (by omega) hH
      obtain ⟨σ2, c1, c2, c3, c4⟩ := m_runsTold F hr (by omega) (by omega) hH
      simp only [h0, b1, c1, m_tellsAll F H (by omega) hB _ σ2 c3 c4, xb1_s, xb2_s, xck_1, i10, i00, i11, ↓reduceIte]
      exact ⟨_, _, _, rfl, rfl, RQ_cm hRR b2 c2⟩
    · obtain ⟨σ1, a1, a2⟩ := m_isThing' F t (by omega) hB hH.2.2.2.1
      have hH1 := Hse_m hH a2
      simp only [h0, a1, c_lacksThing F t σc H hH.2.1, xb1_s, xb2_s, xck_1, i10, i00, i11, ↓reduceIte]
      by_cases h2 : ¬ t < 0 ∧ t < nI (hT H)
      · obtain ⟨tt, ht, rfl⟩ := lt_of_nI (by omega) h2.1 h2.2
        obtain ⟨σc', b1, b2, b3⟩ := c_tells0 F tt hr (by omega) ht (by omega) hH1
        obtain ⟨σ2, c1, c2, c3, c4⟩ := m_runsTold F hr (by omega) (by omega) hH1
        simp only [bI_nf h2, bI_t h2, b1, c1, m_tellsNow F tt H (by omega) hB ht _ σ2 c3 (c4 tt ht).1, xb1_s, xb2_s, xck_1, i10, i00, i11, ↓reduceIte]
        exact ⟨_, _, _, rfl, rfl, RQ_cm hRR b2 (xFr_tr a2 c2)⟩
      · simp only [bI_nt h2, bI_f h2, xb1_s, xb2_s, xck_1, i10, i00, i11, ↓reduceIte]
        exact ⟨_, _, _, rfl, rfl, RQ_cm hRR xFr_rf a2⟩
  · simp only [c_noHour, m_isHour, bI_nt h1, bI_f h1, xb1_s, xb2_s, xck_1, i10, i00, i11, ↓reduceIte]
    exact ⟨_, _, _, rfl, rfl, hRR⟩
theorem q_nowhere (F : Nat) (hF : 5000 ≤ F) (H : Hs) (D : Dy) : zP_nowhere F (RQ H D) := by
  intro σc σm hRR h
  have hR := hRR.1
  have hH := hRR.2.1
  have hB := hH.1
  unfold mX8_nowhere mX9_nowhere mX9_nowhere_L17
  by_cases h1 : 0 ≤ h ∧ h ≤ 23
  · obtain ⟨hr, hr1, rfl⟩ := rngI (n := 23) (by decide) (by decide) h1
    obtain ⟨σc', b1, b2⟩ := c_allTell F hr (by omega) (by omega) hH
    obtain ⟨σ2, c1, c2, c3, c4⟩ := m_runsTold F hr (by omega) (by omega) hH
    have hH' := Hse_m (Hse_c hH b2) c2
    have hd := hH'.2.2.2.2.1.1
    have e1 := c_nowL F hr (allL H (fun t => dayL H D t (hr + 1)) (hT H)) H D (by omega) hB σc' hH'.2.1 hH'.2.2.1 (D 0 0) F 0 0 (by omega) (by omega)
    have e2 := m_nowL F hr (allL H (fun t => dayL H D t (hr + 1)) (hT H)) H D (by omega) hB σ2 c3 hH'.2.2.2.2.1 (D 0 0) F 0 0 (by omega) (by omega)
    unfold mX9_nowhereOf
    simp only [c_noHour, m_isHour, bI_nf h1, bI_t h1, b1, c1, m_tellsAll F H (by omega) hB _ σ2 c3 c4, xb1_s, xb2_s, xck_1, i10, i00, i11, ↓reduceIte]
    rw [show (0 : Int32) = nI 0 from rfl]
    rw [show (0 : Int32) = nI 0 from rfl] at e1 e2
    rw [e1, e2, xb2_s]
    exact ⟨_, _, _, rfl, rfl, RQ_cm hRR b2 c2⟩
  · simp only [c_noHour, m_isHour, bI_nt h1, bI_f h1, xb1_s, xb2_s, xck_1, i10, i00, i11, ↓reduceIte]
    exact ⟨_, _, _, rfl, rfl, hRR⟩
theorem q_known (F : Nat) (hF : 5000 ≤ F) (H : Hs) (D : Dy) : zP_known F (RQ H D) := by
  intro σc σm hRR h
  have hR := hRR.1
  have hH := hRR.2.1
  have hB := hH.1
  have hb1 := hB.1
  obtain ⟨t1, t2⟩ := p2T hb1
  unfold mX8_known mX9_known mX9_known_L17
  by_cases h1 : 0 ≤ h ∧ h ≤ 23
  · obtain ⟨hr, hr1, rfl⟩ := rngI (n := 23) (by decide) (by decide) h1
    obtain ⟨σc1, b1, b2⟩ := c_allTell F hr (by omega) (by omega) hH
    obtain ⟨σ2, c1, c2, c3, c4⟩ := m_runsTold F hr (by omega) (by omega) hH
    have hH1 := Hse_c hH b2
    obtain ⟨σc2, e1, e2⟩ := c_knownL F hr (allL H (fun t => dayL H D t (hr + 1)) (hT H)) (by omega) (by omega) F 0 σc1 (Nat.zero_le _) (by omega) hH1
    have m1 := m_knownL F H (allL H (fun t => dayL H D t (hr + 1)) (hT H)) (fun t => dayL H D t (hr + 1)) (by omega) hB σ2 c3 c4 F 0 (Nat.zero_le _) (by omega)
    rw [bst_end hb1 (decide_eq_true (sel_all (hT H) hb1 (Nat.le_refl _) hb1))] at m1
    have e12 : (1 : Int32) <<< (xI σc1 (12 + 0) &&& 31) - 1 = nI (2 ^ hT H - 1) := by
      rw [show xI σc1 (12 + 0) = nI (hT H) from hH1.2.1.1, shl1 (hT H) (by omega)]
      exact pk_sub (b := 1) t1
    unfold mX9_knownOf
    simp only [c_noHour, m_isHour, bI_nf h1, bI_t h1, b1, c1, e12, m_tellsAll F H (by omega) hB _ σ2 c3 c4, xb1_s, xb2_s, xck_1, i10, i00, i11, ↓reduceIte]
    rw [show mX9_knownOf_L15 F F (allL H (fun t => dayL H D t (hr + 1)) (hT H)) (-1) 0 σ2 = _ from m1, show mX8_known_L42 F F (nI hr) (allL H (fun t => dayL H D t (hr + 1)) (hT H)) (nI (2 ^ hT H - 1)) (nI (2 ^ hT H - 1)) 0 σc1 = _ from e1, xb2_s]
    exact ⟨_, _, _, rfl, rfl, RQ_cm hRR (xFr_tr b2 e2) c2⟩
  · simp only [c_noHour, m_isHour, bI_nt h1, bI_f h1, xb1_s, xb2_s, xck_1, i10, i00, i11, ↓reduceIte]
    exact ⟨_, _, _, rfl, rfl, hRR⟩
theorem q_together (F : Nat) (hF : 5000 ≤ F) (H : Hs) (D : Dy) : zP_together F (RQ H D) := by
  intro σc σm hRR v
  have hR := hRR.1
  have hH := hRR.2.1
  have hB := hH.1
  have hb1 := hB.1
  unfold mX8_together mX9_together mX9_together_L20 mX8_together_L11
  simp only [m_in, rngM_eq (N := 27) (v := v) (hi := 27) (top := 28) (by decide) (by decide), xb1_s, xb2_s, xck_1, i10, i00, i11, ↓reduceIte]
  by_cases h1 : v < -1
  · rw [if_pos h1, bI_f (fun w => w.1 h1), if_pos rfl]
    exact ⟨_, _, _, rfl, rfl, hRR⟩
  · by_cases h2 : v < 28
    · rw [if_neg h1, if_pos h2, bI_t ⟨h1, h2⟩, if_neg (by decide)]
      obtain ⟨σc1, b1, b2⟩ := c_insep F (by omega) hH
      obtain ⟨_, hC, hD, hT', hR', h7, h8⟩ := hH
      obtain ⟨σ1, a1, a2, a3⟩ := m_reads F (by omega) hT'
      obtain ⟨σ2, c1, c2, c3, c4⟩ := m_asTold F a2 (MR_fr hR' a3) h7 h8
      obtain ⟨σ3, d1, d2, d3⟩ := m_begins F H (by omega) hB σ2
      obtain ⟨σ4, e1, e2, e3⟩ := m_tg14 F v F 0 σ3 (by omega) (by omega) (fun p hp => by omega)
      have fm : xFr mI mA σm σ4 := xFr_tr (xFr_tr (xFr_tr a3 c4) (xFr_mono d2 (by simp) (by simp))) (xFr_mono e2 (by simp) (by simp))
      have hM4 : MH σ4 H := MH_fr (MH_l c3 d2) e2 (by simp) (by simp)
      obtain ⟨σ5, g1, g2, g3⟩ := m_tg42 F H D v (by omega) hB h7 24 F 0 σ4 _ _ (by omega) (by omega) hM4 (MD_f24 (MD_l c2 d2) e2) (MLs_a d3 e2) e3
      have k := m_tg190 F v _ _ σ5 g3 F 0 (by omega) (by omega)
      have es : ∀ p, p < 64 → (tgZ H D).testBit p = (decide (p / 8 < p % 8) && (false || (List.range' 0 24).any fun h => (List.range' 0 (hT H)).any fun t => Bt (tlv H D t h) p) && !(false || (List.range' 0 24).any fun h => (List.range' 0 (hT H)).any fun t => Ap (tlv H D t h) p)) := fun p hp => by
        rw [tgZ_tb, Bool.false_or, Bool.false_or]
        unfold tgB
        rw [decide_eq_true hp, Bool.and_true]
        rfl
      rw [← fb_ct_cg 64 es] at k
      unfold mX9_togetherOf
      rw [b1, xb2_s, a1, xb1_s, c1, xb1_s, d1, xb1_s, show mX9_togetherOf_L14 F F v 0 σ3 = _ from e1]
      unfold mX9_togetherOf_L40
      rw [show mX9_togetherOf_L42 F F v 0 σ4 = _ from g1]
      unfold mX9_togetherOf_L183
      rw [show mX9_togetherOf_L190 F F v 0 (-1) 0 σ5 = _ from k, xb2_s]
      have fm5 : xFr mI mA σm σ5 := xFr_tr fm (xFr_mono g2 (by simp) (by simp))
      rcases rngM_c (N := 28) (by omega) (by decide) h1 h2 with rfl | ⟨j, hj, rfl⟩
      · rw [if_pos rfl, if_pos rfl, c_bitCountL F (tgZ H D) (tgZ_lt H D), xb2_s]
        exact ⟨_, _, _, rfl, rfl, RQ_cm hRR b2 fm5⟩
      · have hz := tgZ_lt H D
        rw [if_neg (nI_m1 (by omega)), if_neg (nI_m1 (by omega)), kv_kth (by omega) 64 (by omega), ← kth_cg 64 es, show mX8_together_L38 F F (lN (tgZ H D)) (nI j) 0 σc1 = _ from c_kthL F (tgZ H D) j (by omega) (by omega) σc1 F 0 (by omega) (by omega) (Nat.zero_le _)]
        exact ⟨_, _, _, rfl, rfl, RQ_cm hRR b2 fm5⟩
    · rw [if_neg h1, if_neg h2, bI_f (fun w => h2 w.2), if_pos rfl]
      exact ⟨_, _, _, rfl, rfl, hRR⟩
theorem q_who (F : Nat) (hF : 5000 ≤ F) (H : Hs) (D : Dy) : zP_who F (RQ H D) := by
  intro σc σm hRR v
  have hR := hRR.1
  have hH := hRR.2.1
  have hn := hH.2.2.2.2.1.1
  unfold mX8_who mX9_who mX8_who_L21 mX9_who_L18
  simp only [c_noSitting F v hH.2.2.1, m_isSitting F v hH.2.2.2.2.1, xb1_s, xb2_s, xck_1, i10, i00, i11, ↓reduceIte]
  by_cases h2 : ¬ v < 0 ∧ v < nI (D 0 0)
  · obtain ⟨i, hi, rfl⟩ := lt_of_nI (by omega) h2.1 h2.2
    obtain ⟨nm, hm, tm, om, s1, s2, s3, s4⟩ := hR.2.2.2.2.1
    obtain ⟨σc', σm', a1, a2, a3, a4, a5, a6, a7, a8⟩ := cm_who F i nm hm tm om (by omega) hH hi s1 s2 s3 s4
    simp only [bI_nf h2, bI_t h2, a1, a2, xb1_s, xb2_s, xck_1, i10, i00, i11, ↓reduceIte]
    refine ⟨_, _, _, rfl, rfl, RQ_day hRR a3 rfl (fun e _ => ⟨rfl, rfl, rfl⟩) (xFr_mono a6 (by simp) (by simp)) (xFr_mono a7 (by simp) (by simp)) (fun e he => ⟨?_, a8 e he, ?_⟩)⟩
    · rw [a7.2 11 (by decide)]
    · rw [a7.2 13 (by decide)]
  · simp only [bI_nt h2, bI_f h2, xb1_s, xb2_s, xck_1, i10, i00, i11, ↓reduceIte]
    exact ⟨_, _, _, rfl, rfl, hRR⟩
theorem q_stand (F : Nat) (hF : 5000 ≤ F) (H : Hs) (D : Dy) : zP_stand F (RQ H D) := by
  intro σc σm hRR v h
  have hR := hRR.1
  have hH := hRR.2.1
  have hB := hH.1
  have hb1 := hB.1
  have hb2 := hB.2.1
  have hn := hH.2.2.2.2.1.1
  unfold mX8_stand mX9_stand mX8_stand_L15 mX8_stand_L29 mX9_stand_L24 mX9_stand_L26
  simp only [c_noSitting F v hH.2.2.1, m_isSitting F v hH.2.2.2.2.1, xb1_s, xb2_s, xck_1, i10, i00, i11, ↓reduceIte]
  by_cases h2 : ¬ v < 0 ∧ v < nI (D 0 0)
  · obtain ⟨i, hi, rfl⟩ := lt_of_nI (by omega) h2.1 h2.2
    simp only [bI_nf h2, bI_t h2, c_noHour, m_isHour, xb1_s, xb2_s, xck_1, i10, i00, i11, ↓reduceIte]
    by_cases h1 : 0 ≤ h ∧ h ≤ 23
    · obtain ⟨hr, hr1, rfl⟩ := rngI (n := 23) (by decide) (by decide) h1
      obtain ⟨nm, hm, tm, om, s1, s2, s3, s4⟩ := hR.2.2.2.2.1
      obtain ⟨σc1, σm1, a1, a2, a3, a4, a5, a6, a7, a8⟩ := cm_who F i nm hm tm om (by omega) hH hi s1 s2 s3 s4
      obtain ⟨y1, y2, y3, y4, y5, y6⟩ := hH.2.2.2.2.1.2.2.1 i hi
      have hs : ∀ q, q < 8 → (hasB (whoB (wF H D nm hm tm om i) (hP H)) q ↔ (decide (q < hP H) && wF H D nm hm tm om i q) = true) := fun q hq => who_has hb2 (by omega)
      have hsP : ∀ p, hP H ≤ p → (decide (p < hP H) && wF H D nm hm tm om i p) = false := fun p hp => by
        rw [decide_eq_false (by omega), Bool.false_and]
      obtain ⟨σc2, c1, c2, c3⟩ := c_standL F hr i (whoB (wF H D nm hm tm om i) (hP H)) (fun q => decide (q < hP H) && wF H D nm hm tm om i q) H D (by omega) hB (by omega) hH.2.2.2.2.2.1 hi (by omega) (by omega) hs F 0 σc1 (by omega) (by omega) (CH_fr hH.2.1 (a6.1 _ (by decide)) (a6.1 _ (by decide)) (fun a h1 h2 => a6.2 a (by simp <;> omega))) a3
      obtain ⟨σm2, d1, d2, d3, d4⟩ := m_standL F hr i (whoB (wF H D nm hm tm om i) (hP H)) (fun q => decide (q < hP H) && wF H D nm hm tm om i q) H D (by omega) hB (by omega) hH.2.2.2.2.2.1 hi (by omega) (by omega) hs hsP F 0 (D 3 i) σm1 (by omega) (by omega) a5 (by rw [Dset_id]; exact a4)
      have e12 : xA σm1 12 i = nI (D 3 i) := (a4.2.2.1 i hi).2.2.1
      unfold mX1_tellingThing mX9_standOf
      simp only [bI_nf h1, bI_t h1, a1, a2, xin_nI (show i < 44 by omega) (by omega), nI_clamp (show i < 2 ^ 31 by omega), e12, xb1_s, xb2_s, xck_1, i10, i00, i11, ↓reduceIte]
      rw [show mX1_tellingThing_L16 F F (nI i) (nI hr) (whoB (wF H D nm hm tm om i) (hP H)) (-1) 9 0 σc1 = _ from c1, show mX9_standOf_L23 F F (nI i) (nI hr) (whoB (wF H D nm hm tm om i) (hP H)) (nI (D 3 i)) (-1) 0 0 σm1 = _ from d1, xb2_s, xb2_s]
      have fm : xFr mI (mA ++ [11, 12, 13]) σm σm2 := xFr_tr (xFr_mono a7 (by simp) (by simp)) (xFr_mono d3 (by simp) (by simp))
      refine ⟨_, _, _, rfl, rfl, RQ_day hRR c2 rfl (fun e _ => ⟨rfl, rfl, rfl⟩) (xFr_tr (xFr_mono a6 (by simp) (by simp)) (xFr_mono c3 (by simp) (by simp))) fm (fun e he => ⟨?_, ?_, ?_⟩)⟩
      · rw [d3.2 11 (by decide), a7.2 11 (by decide)]
      · by_cases w : e = i
        · rw [w, (d2.2.2.1 i hi).2.2.1, y3]
        · rw [d4 e w, a8 e he]
      · rw [d3.2 13 (by decide), a7.2 13 (by decide)]
    · simp only [bI_nt h1, bI_f h1, xb1_s, xb2_s, xck_1, i10, i00, i11, ↓reduceIte]
      exact ⟨_, _, _, rfl, rfl, hRR⟩
  · simp only [bI_nt h2, bI_f h2, xb1_s, xb2_s, xck_1, i10, i00, i11, ↓reduceIte]
    exact ⟨_, _, _, rfl, rfl, hRR⟩
