theorem m_wgtL (F c x hr : Nat) (c19 : Int32 → Int32 → Int32 → Int32 → Int32 → Int64 → Int32 → xSt → Option (Int64 × xSt)) (v2 v3 w : Int32) (v6 : Int64) (σ : xSt) (hc : c ≤ 16) (hx : x < 2 ^ 24) (hr1 : hr < 10) : ∀ (fu j : Nat), j ≤ hr + 1 → hr + 1 < j + fu → mX9_draughtsOf_L34 F c19 fu (nI c) v2 v3 (nI hr) w v6 (nI x) (lN (wgt c x j)) (nI j) σ = mX9_draughtsOf_L72 F c19 (nI c) v2 v3 (nI hr) w v6 (nI x) (lN (wgt c x (hr + 1))) σ := by
  intro fu
  induction fu with
  | zero => intro j a b; omega
  | succ fu ih =>
    intro j a b
    show mX9_draughtsOf_S34 F c19 (mX9_draughtsOf_L34 F c19 fu) (nI c) v2 v3 (nI hr) w v6 (nI x) (lN (wgt c x j)) (nI j) σ = _
    unfold mX9_draughtsOf_S34 mX9_draughtsOf_L63
    by_cases q : j = hr + 1
    · subst q; rw [if_pos (nI_lt (by omega) (by omega))]
    · have e16 : (16 : Int32) - nI c = nI (16 - c) := pk_sub (a := 16) hc
      rw [if_neg (nI_nlt (by omega) (by omega)), m_isI, xb2_s, nI_1, e16, l_i (by omega), l_i (by omega), l_mul, l_mul, ← ih (j + 1) (by omega) (by omega)]
      show _ = mX9_draughtsOf_L34 F c19 fu (nI c) v2 v3 (nI hr) w v6 (nI x) (lN (wgt c x j * (if x.testBit j then c else 16 - c))) (nI (j + 1)) σ
      by_cases q2 : x.testBit j = true
      · rw [bI_t ((hasB_t x j (by omega) (by omega)).mpr q2), if_neg (by decide), if_pos q2]
      · rw [bI_f (fun z => q2 ((hasB_t x j (by omega) (by omega)).mp z)), if_pos rfl, if_neg q2]
theorem m_drL (F c t s hr : Nat) (w : Int32) (H : Hs) (D : Dy) (hF : 2000 ≤ F) (hB : HB H) (ht : t < hT H) (hc : c ≤ 16) (hr1 : hr < 10) : ∀ (fu x y : Nat) (σ : xSt), x ≤ 2 ^ (hr + 1) → 2 ^ (hr + 1) < x + fu → MH σ H → MD σ (Dx D y t) →
    ∃ σ', mX9_draughtsOf_L19 F fu (nI c) (nI t) (nI s) (nI hr) w (lN (fb_sm (drF H D c t s hr) x)) (nI x) σ = mX9_draughtsOf_L120 F (nI hr) w (lN (fb_sm (drF H D c t s hr) (2 ^ (hr + 1)))) σ' ∧ xFr mI mA σ σ' := by
  have h1024 : 2 ^ (hr + 1) ≤ 1024 := Nat.le_trans (Nat.pow_le_pow_right (by omega) (show hr + 1 ≤ 10 by omega)) (by decide)
  intro fu
  induction fu with
  | zero => intro x y σ a b; omega
  | succ fu ih =>
    intro x y σ a b hM' hD
    show ∃ σ', mX9_draughtsOf_S19 F (mX9_draughtsOf_L19 F fu) (nI c) (nI t) (nI s) (nI hr) w (lN (fb_sm (drF H D c t s hr) x)) (nI x) σ = _ ∧ _
    unfold mX9_draughtsOf_S19
    rw [shl2 hr (by omega)]
    by_cases q : x = 2 ^ (hr + 1)
    · rw [← q, if_pos (nI_le (Nat.le_refl _) (by omega))]
      exact ⟨σ, rfl, xFr_rf⟩
    · have hx : x < 2 ^ (hr + 1) := by omega
      rw [if_neg (nI_ge hx (by omega))]
      rw [show mX9_draughtsOf_L34 F (mX9_draughtsOf_L19 F fu) F (nI c) (nI t) (nI s) (nI hr) w (lN (fb_sm (drF H D c t s hr) x)) (nI x) 1 0 σ = _ from m_wgtL F c x hr (mX9_draughtsOf_L19 F fu) (nI t) (nI s) w _ σ hc (by omega) hr1 F 0 (by omega) (by omega)]
      unfold mX9_draughtsOf_L72 mX9_draughtsOf_L111 mX9_draughtsOf_L114
      have wl := wgt_le c x hc (hr + 1)
      have w40 := p16 (show hr + 1 ≤ 10 by omega)
      rw [l_cmp0 (by omega), nI_1]
      have esm : fb_sm (drF H D c t s hr) (x + 1) = fb_sm (drF H D c t s hr) x + drF H D c t s hr x := fb_sm_succ _ _
      by_cases q0 : wgt c x (hr + 1) = 0
      · rw [if_pos q0, if_pos (show (0 : Int32) ≤ 0 by decide)]
        obtain ⟨σ', z1, z2⟩ := ih (x + 1) y σ (by omega) (by omega) hM' hD
        refine ⟨σ', ?_, z2⟩
        rw [← z1, esm]
        have : drF H D c t s hr x = 0 := by unfold drF; rw [q0, ite_self]
        rw [this]; rfl
      · rw [if_neg q0, if_neg (show ¬ ((1 : Int32) ≤ 0) by decide)]
        have hD' : MD (xsI σ 22 (nI x)) (Dx D x t) := MD_x (by omega) hD
        have f0 : xFr [22] [] σ (xsI σ 22 (nI x)) := xFr_sI (by decide)
        have hM1 : MH (xsI σ 22 (nI x)) H := MH_fr hM' f0 (by simp) (by simp)
        obtain ⟨σ1, c1, c2, c3⟩ := m_runs F hr H (Dx D x t) (by omega) (by omega) hB (fun h _ _ => ht) _ hM1 hD'
        have hM2 := MH_l hM1 c2
        rw [c1, xb1_s, m_tellsNow F t H (by omega) hB ht _ σ1 hM2 (c3 t ht).1, xb2_s, m_isI, xb2_s]
        obtain ⟨σ', z1, z2⟩ := ih (x + 1) x σ1 (by omega) (by omega) hM2 (MD_l hD' c2)
        refine ⟨σ', ?_, xFr_tr (xFr_tr (xFr_mono f0 (by simp) (by simp)) (xFr_mono c2 (by simp) (by simp))) z2⟩
        rw [← z1, esm]
        unfold drF
        by_cases q2 : tlB H (Dx D x t) t s hr = true
        · rw [bI_t (tlB_t q2), if_neg (by decide), if_pos q2, l_add]
        · rw [bI_f (tlB_f q2), if_pos rfl, if_neg q2, show (0 : Int64) = lN 0 from rfl, l_add]
theorem p_draughts (F : Nat) (hF : 5000 ≤ F) : zP_draughts F Rel := by
  intro σc σm hR c t s h w
  obtain ⟨H, D, hH⟩ := Hse_of hR
  have hB := hH.1
  have hb1 := hB.1
  have hb2 := hB.2.1
  unfold mX8_draughts mX9_draughts mX8_draughts_L55 mX8_longRefusal mX9_draughts_L41 mX9_draughts_L42 mX9_draughts_L73 mX9_draughts_L78 mX9_no
  have ec : (0 ≤ c ∧ c ≤ 16) ↔ ¬ c < 0 ∧ ¬ (16 < c) := by rw [Int32.not_lt, Int32.not_lt]
  by_cases h1 : 0 ≤ c ∧ c ≤ 16
  · obtain ⟨h1a, h1b⟩ := ec.mp h1
    obtain ⟨c', hc', rfl⟩ := rngI (n := 16) (by decide) (by decide) h1
    simp only [m_in, bI_t h1, xb1_s, xb2_s, xck_1, i10, i00, i11, ↓reduceIte]
    simp only [h1a, h1b, xb1_s, xb2_s, xck_1, i10, i00, i11, ↓reduceIte]
    obtain ⟨σ1, a1, a2⟩ := m_isThing' F t (by omega) hB hH.2.2.2.1
    have hH1 := Hse_m hH a2
    simp only [a1, c_lacksThing F t σc H hH.2.1, xb1_s, xb2_s, xck_1, i10, i00, i11, ↓reduceIte]
    by_cases h2 : ¬ t < 0 ∧ t < nI (hT H)
    · obtain ⟨tt, ht, rfl⟩ := lt_of_nI (by omega) h2.1 h2.2
      obtain ⟨σ2, d1, d2⟩ := m_isPerson' F s (by omega) hB hH1.2.2.2.1
      have hH2 := Hse_m hH1 d2
      simp only [bI_nf h2, bI_t h2, d1, c_lacksPerson F s σc H hH.2.1, xb1_s, xb2_s, xck_1, i10, i00, i11, ↓reduceIte]
      by_cases h3 : ¬ s < 0 ∧ s < nI (hP H)
      · obtain ⟨ss, hs, rfl⟩ := lt_of_nI (by omega) h3.1 h3.2
        have eh : (0 ≤ h ∧ h ≤ 9) ↔ ¬ h < 0 ∧ ¬ (9 < h) := by rw [Int32.not_lt, Int32.not_lt]
        simp only [bI_nf h3, bI_t h3, xb1_s, xb2_s, xck_1, i10, i00, i11, ↓reduceIte]
        by_cases h5 : 0 ≤ h ∧ h ≤ 9
        · obtain ⟨h5a, h5b⟩ := eh.mp h5
          obtain ⟨hr, hr1, rfl⟩ := rngI (n := 9) (by decide) (by decide) h5
          simp only [bI_t h5, xb1_s, xb2_s, xck_1, i10, i00, i11, ↓reduceIte]
          simp only [h5a, h5b, xb1_s, xb2_s, xck_1, i10, i00, i11, ↓reduceIte]
          have ew : (0 ≤ w ∧ w ≤ 1) ↔ ¬ w < 0 ∧ w ≤ 1 := by rw [Int32.not_lt]
          by_cases h4 : 0 ≤ w ∧ w ≤ 1
          · obtain ⟨h4a, h4b⟩ := ew.mp h4
            simp only [bI_t h4, xb1_s, xb2_s, xck_1, i10, i00, i11, ↓reduceIte]
            simp only [h4a, h4b, xb1_s, xb2_s, xck_1, i10, i00, i11, ↓reduceIte]
            have hpw : 2 ^ (hr + 1) ≤ 1024 := Nat.le_trans (Nat.pow_le_pow_right (by omega) (show hr + 1 ≤ 10 by omega)) (by decide)
            obtain ⟨σc', e1, e2⟩ := c_drL F c' tt ss hr w H D (by omega) hB ht hc' (by omega) F 0 σc (Nat.zero_le _) (by omega) hH.2.1 hH.2.2.1
            obtain ⟨σ3, f1, f2, f3⟩ := m_reads F (by omega) hH2.2.2.2.1
            obtain ⟨σ4, g1, g2, g3, g4⟩ := m_asTold F f2 (MR_fr hH2.2.2.2.2.1 f3) hH.2.2.2.2.2.1 hH.2.2.2.2.2.2
            have g22 : xI σ4 22 = 0 := by
              have := g1
              unfold mX9_asTold at this
              cases this
              rw [xI_sI, if_neg (by decide), xI_sI, if_pos rfl]
            have f23 : xFr [23] [] σ4 (xsI σ4 23 (nI tt)) := xFr_sI (by decide)
            obtain ⟨σ6, l1, l2⟩ := m_drL F c' tt ss hr w H D (by omega) hB ht hc' (by omega) F 0 0 (xsI σ4 23 (nI tt)) (Nat.zero_le _) (by omega) (MH_fr g3 f23 (by simp) (by simp)) (MD_x0 (by omega) g2 g22)
            have hRel : Rel σc' σ6 := Rel_cm hR e2 (xFr_tr (xFr_tr (xFr_tr (xFr_tr (xFr_tr a2 d2) f3) g4) (xFr_mono f23 (by simp) (by simp))) l2)
            unfold mX9_draughtsOf
            rw [f1, xb1_s, g1, xb1_s, nI_1]
            rw [show mX9_draughtsOf_L19 F F (nI c') (nI tt) (nI ss) (nI hr) w 0 0 (xsI σ4 23 (nI tt)) = _ from l1, show mX8_draughts_L73 F F (nI c') (nI tt) (nI ss) (nI hr) w (nI (hr + 1)) 0 0 σc = _ from e1]
            unfold mX8_draughts_L149 mX9_draughtsOf_L120 mX8_draughts_L187
            have hn : fb_sm (drF H D c' tt ss hr) (2 ^ (hr + 1)) < 2 ^ 62 := dr_le hc' (by omega) hpw
            have h16 := p16 (show hr + 1 ≤ 10 by omega)
            have h160 : 0 < 16 ^ (hr + 1) := Nat.pow_pos (by omega)
            rw [show (16 : Int32) = nI 16 from rfl, c_power F 16 (hr + 1) σc' (by omega) (by omega) (by omega), xb2_s, c_become F _ _ σc' (by omega) hn (by omega), xb1_s, shl4 hr (by omega), m_lowest F _ _ w σ6 (by omega) hn (by omega) h160, xb2_s, xb2_s]
            generalize fb_sm (drF H D c' tt ss hr) (2 ^ (hr + 1)) = X at *
            have c0 : xL (xsL (xsL σc' 0 (lN (frA X (16 ^ (hr + 1))))) 1 (lN (frB X (16 ^ (hr + 1))))) 0 = lN (frA X (16 ^ (hr + 1))) := by rw [xL_sL, if_neg (by decide), xL_sL, if_pos rfl]
            have c1 : xL (xsL (xsL σc' 0 (lN (frA X (16 ^ (hr + 1))))) 1 (lN (frB X (16 ^ (hr + 1))))) 1 = lN (frB X (16 ^ (hr + 1))) := by rw [xL_sL, if_pos rfl]
            rw [c0, c1]
            by_cases q : w = 0
            · simp only [q, ↓reduceIte]; exact ⟨_, _, _, rfl, rfl, hRel⟩
            · simp only [q, ↓reduceIte]; exact ⟨_, _, _, rfl, rfl, hRel⟩
          · simp only [bI_f h4, xb1_s, xb2_s, xck_1, i10, i00, i11, ↓reduceIte]
            refine ⟨_, σc, _, ?_, rfl, Rel_cm hR xFr_rf (xFr_tr a2 d2)⟩
            by_cases q : w < 0
            · simp only [q, xb1_s, xb2_s, xck_1, i10, i00, i11, ↓reduceIte]
            · have q2 : ¬ w ≤ 1 := fun z => h4 (ew.mpr ⟨q, z⟩)
              simp only [q, q2, xb1_s, xb2_s, xck_1, i10, i00, i11, ↓reduceIte]
        · simp only [bI_f h5, xb1_s, xb2_s, xck_1, i10, i00, i11, ↓reduceIte]
          refine ⟨_, σc, _, ?_, rfl, Rel_cm hR xFr_rf (xFr_tr a2 d2)⟩
          by_cases q : h < 0
          · simp only [q, xb1_s, xb2_s, xck_1, i10, i00, i11, ↓reduceIte]
          · have q2 : (9 : Int32) < h := by
              by_cases z : (9 : Int32) < h
              · exact z
              · exact absurd (eh.mpr ⟨q, z⟩) h5
            simp only [q, q2, xb1_s, xb2_s, xck_1, i10, i00, i11, ↓reduceIte]
      · simp only [bI_nt h3, bI_f h3, xb1_s, xb2_s, xck_1, i10, i00, i11, ↓reduceIte]
        exact ⟨_, _, _, rfl, rfl, Rel_cm hR xFr_rf (xFr_tr a2 d2)⟩
    · simp only [bI_nt h2, bI_f h2, xb1_s, xb2_s, xck_1, i10, i00, i11, ↓reduceIte]
      exact ⟨_, _, _, rfl, rfl, Rel_cm hR xFr_rf a2⟩
  · simp only [m_in, bI_f h1, xb1_s, xb2_s, xck_1, i10, i00, i11, ↓reduceIte]
    refine ⟨_, σc, _, ?_, rfl, hR⟩
    by_cases q : c < 0
    · simp only [q, xb1_s, xb2_s, xck_1, i10, i00, i11, ↓reduceIte]
    · have q2 : (16 : Int32) < c := by
        by_cases z : (16 : Int32) < c
        · exact z
        · exact absurd (ec.mpr ⟨q, z⟩) h1
      simp only [q, q2, xb1_s, xb2_s, xck_1, i10, i00, i11, ↓reduceIte]
