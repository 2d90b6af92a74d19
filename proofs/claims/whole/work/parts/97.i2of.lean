/-! ===== what digest asks of the model ===== -/
theorem xb2_id {o : Option (Int32 × xSt)} : xb2 o (fun r σ => some (r, σ)) = o := by
  cases o with
  | none => rfl
  | some x => rfl
theorem hr_ok (h : Nat) (hh : h < 24) : 0 ≤ nI h ∧ nI h ≤ 23 := by
  have : ∀ z, z < 24 → 0 ≤ nI z ∧ nI z ≤ 23 := by decide +kernel
  exact this h hh
theorem ix_ok {t T : Nat} (ht : t < T) (hT : T < 1000) : ¬ nI t < 0 ∧ nI t < nI T := ⟨nI_pos (by omega), nI_lt ht (by omega)⟩
theorem o_tells (F : Nat) (h : Int32) (hh : 0 ≤ h ∧ h ≤ 23) (σ : xSt) : mX9_tells F h (-1) σ = mX9_tellsOf F h (-1) σ := by
  unfold mX9_tells mX9_tells_L20 mX9_tells_L31
  rw [m_isHour, bI_t hh, xb2_s, if_neg (by decide), if_pos rfl, xb2_id]
theorem o_nowhere (F : Nat) (h : Int32) (hh : 0 ≤ h ∧ h ≤ 23) (σ : xSt) : mX9_nowhere F h σ = mX9_nowhereOf F h σ := by
  unfold mX9_nowhere mX9_nowhere_L17
  rw [m_isHour, bI_t hh, xb2_s, if_neg (by decide), xb2_id]
theorem o_known (F : Nat) (h : Int32) (hh : 0 ≤ h ∧ h ≤ 23) (σ : xSt) : mX9_known F h σ = mX9_knownOf F h σ := by
  unfold mX9_known mX9_known_L17
  rw [m_isHour, bI_t hh, xb2_s, if_neg (by decide), xb2_id]
theorem o_together (F : Nat) (v : Int32) (hv : -1 ≤ v ∧ v ≤ 27) (σ : xSt) : mX9_together F v σ = mX9_togetherOf F v σ := by
  unfold mX9_together mX9_together_L20
  rw [m_in, bI_t hv, xb2_s, if_neg (by decide), xb2_id]
theorem o_who {H : Hs} {D : Dy} {σc σm : xSt} (F i : Nat) (hRR : RQ H D σc σm) (hi : i < D 0 0) : mX9_who F (nI i) σm = mX9_whoOf F (nI i) σm := by
  have hn := hRR.2.1.2.2.2.2.1.1
  unfold mX9_who mX9_who_L18
  rw [m_isSitting F (nI i) hRR.2.1.2.2.2.2.1, bI_t (ix_ok hi (by omega)), xb2_s, if_neg (by decide), xb2_id]
theorem o_stand {H : Hs} {D : Dy} {σc σm : xSt} (F i : Nat) (h : Int32) (hh : 0 ≤ h ∧ h ≤ 23) (hRR : RQ H D σc σm) (hi : i < D 0 0) : mX9_stand F (nI i) h σm = mX9_standOf F (nI i) h σm := by
  have hn := hRR.2.1.2.2.2.2.1.1
  unfold mX9_stand mX9_stand_L26
  rw [m_isSitting F (nI i) hRR.2.1.2.2.2.2.1, bI_t (ix_ok hi (by omega)), xb2_s, if_neg (by decide), m_isHour, bI_t hh, xb2_s, if_neg (by decide), xb2_id]
theorem o_layers {H : Hs} {D : Dy} {σc σm : xSt} (F hr tt : Nat) (i : Int32) (hF : 100 ≤ F) (hr1 : hr < 24) (ht : tt < hT H) (h3 : ¬ i < -1 ∧ i < 5) (hRR : RQ H D σc σm) : ∃ r σc' σm', mX8_layers F (nI hr) (nI tt) i σc = some (r, σc') ∧ mX9_layersOf F (nI hr) (nI tt) i σm = some (r, σm') ∧ RQ H D σc' σm' := by
  have hH := hRR.2.1
  have hB := hH.1
  have hb1 := hB.1
  have h1 := hr_ok hr hr1
  have h2 := ix_ok ht (show hT H < 1000 by omega)
  obtain ⟨σc', b1, b2, b3⟩ := c_tells0 F tt hr hF ht hr1 hH
  obtain ⟨σ2, c1, c2, c3, c4⟩ := m_runsTold F hr hF hr1 hH
  have hRel : RQ H D σc' σ2 := RQ_cm hRR b2 c2
  obtain ⟨r1, r2, r3⟩ := (c4 tt ht).1
  have r1' : (dayL H D tt (hr + 1)).length ≤ 6 := r1
  have hsz := b3.2.2.2.1.2.1
  rw [revU_len] at hsz
  unfold mX8_layers mX8_layers_L28 mX9_layersOf mX9_layersOf_L44 mX8_layers_L71
  simp only [c_noHour, bI_nf h1, c_lacksThing F _ σc H hH.2.1, bI_nf h2, xb1_s, xb2_s, xck_1, i10, i00, i11, ↓reduceIte]
  simp only [h3.1, h3.2, b1, c1, xin_nI (show tt < 6 by omega) (by omega), nI_clamp (show tt < 2 ^ 31 by omega), r2, xb1_s, xb2_s, xck_1, i10, i00, i11, ↓reduceIte]
  rcases rngM_c (N := 5) (by omega) (by decide) h3.1 h3.2 with rfl | ⟨j, hj, rfl⟩
  · rw [if_pos rfl, if_pos rfl, hsz]
    exact ⟨_, _, _, rfl, rfl, hRel⟩
  · rw [if_neg (not_m1 (by omega)), if_neg (not_m1 (by omega)), c_smellAt F j H D tt _ σc' hB ht (by omega) b3, xb2_s]
    refine ⟨_, _, _, rfl, ?_, hRel⟩
    unfold atI
    by_cases q : (dayL H D tt (hr + 1)).length ≤ j
    · rw [if_pos (nI_le q (by omega)), List.getElem?_eq_none q]
    · have hj2 : j < (dayL H D tt (hr + 1)).length := by omega
      have hg := List.getElem?_eq_getElem hj2
      rw [if_neg (nI_ge hj2 (by omega)), e6, nI_add, xck_in (by omega) (by omega), nI_clamp (by omega), (r3 j _ hg).1, hg]
theorem o_strong {H : Hs} {D : Dy} {σc σm : xSt} (F hr tt j : Nat) (hF : 100 ≤ F) (hr1 : hr < 24) (ht : tt < hT H) (hj : j < 5) (hRR : RQ H D σc σm) : ∃ r σc' σm', mX8_strong F (nI hr) (nI tt) (nI j) σc = some (r, σc') ∧ mX9_strongOf F (nI hr) (nI tt) (nI j) σm = some (r, σm') ∧ RQ H D σc' σm' := by
  have hH := hRR.2.1
  have hB := hH.1
  have hb1 := hB.1
  have h1 := hr_ok hr hr1
  have h2 := ix_ok ht (show hT H < 1000 by omega)
  obtain ⟨σc', b1, b2, b3⟩ := c_tells0 F tt hr hF ht hr1 hH
  obtain ⟨σ2, c1, c2, c3, c4⟩ := m_runsTold F hr hF hr1 hH
  have hRel : RQ H D σc' σ2 := RQ_cm hRR b2 c2
  obtain ⟨r1, r2, r3⟩ := (c4 tt ht).1
  have r1' : (dayL H D tt (hr + 1)).length ≤ 6 := r1
  unfold mX8_strong mX8_strong_L27 mX9_strongOf mX9_strongOf_L30
  have j5 : nI j < 5 := nI_lt (b := 5) (by omega) (by omega)
  have j0 : ¬ nI j < 0 := nI_pos (by omega)
  simp only [c_noHour, bI_nf h1, c_lacksThing F _ σc H hH.2.1, bI_nf h2, xb1_s, xb2_s, xck_1, i10, i00, i11, ↓reduceIte]
  simp only [j0, j5, b1, c1, xin_nI (show tt < 6 by omega) (by omega), nI_clamp (show tt < 2 ^ 31 by omega), r2, c_strengthAt F j H D tt _ σc' hB ht (by omega) b3, xb1_s, xb2_s, xck_1, i10, i00, i11, ↓reduceIte]
  refine ⟨_, _, _, rfl, ?_, hRel⟩
  unfold atI
  by_cases q : (dayL H D tt (hr + 1)).length ≤ j
  · rw [if_pos (nI_le q (by omega)), List.getElem?_eq_none q]
  · have hj2 : j < (dayL H D tt (hr + 1)).length := by omega
    have hg := List.getElem?_eq_getElem hj2
    rw [if_neg (nI_ge hj2 (by omega)), e6, nI_add, xck_in (by omega) (by omega), nI_clamp (by omega), (r3 j _ hg).2, hg]
theorem o_day {H : Hs} {D : Dy} {σc σm : xSt} (F hr tt : Nat) (sd : Int32) (hF : 100 ≤ F) (hr1 : hr < 24) (ht : tt < hT H) (hRR : RQ H D σc σm) : ∃ r σc' σm', mX8_day F sd (nI hr) (nI tt) σc = some (r, σc') ∧ mX9_dayOf F sd (nI hr) (nI tt) σm = some (r, σm') ∧ RQ H D σc' σm' ∧ MH σm' H := by
  have hH := hRR.2.1
  have hB := hH.1
  have hb1 := hB.1
  have h1 := hr_ok hr hr1
  have h2 := ix_ok ht (show hT H < 1000 by omega)
  obtain ⟨σ3, f1, f2, f3⟩ := m_reads F hF hH.2.2.2.1
  obtain ⟨σ4, g1, g2, g3, g4⟩ := m_asTold F f2 (MR_fr hH.2.2.2.2.1 f3) hH.2.2.2.2.2.1 hH.2.2.2.2.2.2
  have f4 : xFr mI mA σm σ4 := xFr_tr f3 g4
  have hn := hH.2.2.2.2.1.1
  obtain ⟨r, σc', σm', D', w1, w2, w3, w4, w5, w6, w7, w8⟩ := cm_dayL F hr tt (D 0 0) H hF hr1 hn hB ht F 0 sd D σc σ4 (by omega) (by omega) rfl hH.2.2.2.2.2.1 hH.2.1 hH.2.2.1 g3 g2
  refine ⟨r, σc', σm', ?_, ?_, ?_, MH_fr g3 w7 (by simp) (by simp)⟩
  · unfold mX8_day mX8_day_L18
    simp only [c_noHour, bI_nf h1, c_lacksThing F _ σc H hH.2.1, bI_nf h2, xb1_s, xb2_s, xck_1, i10, i00, i11, ↓reduceIte]
    unfold mX2_tellsByLot
    rw [show xI σc (14 + 0) = nI (D 0 0) from hH.2.2.1.2.1.1]
    rw [show mX2_tellsByLot_L15 F F (nI hr) (nI tt) (nI (D 0 0)) sd 0 σc = _ from w1, xb2_s]
  · unfold mX9_dayOf
    rw [f1, xb1_s, g1, xb1_s]
    rw [show mX9_dayOf_L14 F F (nI hr) (nI tt) sd 0 σ4 = _ from w2]
  · refine RQ_day hRR w3 w4 w5 (xFr_mono w6 (by simp) (by simp)) (xFr_tr (xFr_mono f4 (by simp) (by simp)) (xFr_mono w7 (by simp) (by simp))) (fun e he => ?_)
    obtain ⟨z1, z2, z3⟩ := w8 e he
    rw [z1, z2, z3, f4.2 11 (by decide), f4.2 12 (by decide), f4.2 13 (by decide)]
    exact ⟨rfl, rfl, rfl⟩
theorem o_person {H : Hs} {D : Dy} {σc σm : xSt} (F e k : Nat) (he : e < hP H) (hk : k < 3) (hRR : RQ H D σc σm) (b : MH σm H) : ∃ r, mX8_person F (nI e) (nI k) σc = some (r, σc) ∧ mX9_personOf F (nI e) (nI k) σm = some (r, σm) := by
  have hB := hRR.2.1.1
  have hC := hRR.2.1.2.1
  have hb1 := hB.2.1
  obtain ⟨k1, k2, k3⟩ := hC.2.2.2 e he
  obtain ⟨l1, l2, l3⟩ := b.2.2.2 e he
  have h12 : xI σc (12 + 1) = nI (hP H) := hC.2.2.1
  obtain ⟨h1, h2⟩ := ix_ok he (show hP H < 1000 by omega)
  unfold mX8_person mX6_part mX6_part_L12 mX9_personOf mX9_personOf_L32
  simp only [h1, h2, h12, xin_nI (show e < lnE 1 by show e < 8; omega) (by decide), xin_nI (show e < 9 by omega) (by decide), nI_clamp (show e < 2 ^ 31 by omega), show xA σc (8 + 1) e = nI (hS H e) from k1, show xA σc (10 + 1) e = nI (hQ H e) from k2, show xA σc (12 + 1) e = nI (hM H e) from k3, l1, l2, m_smellOf F e b hB he, xb1_s, xb2_s, xck_1, i10, i00, i11, ↓reduceIte]
  rcases (show k = 0 ∨ k = 1 ∨ k = 2 by omega) with rfl | rfl | rfl
  · exact ⟨_, rfl, rfl⟩
  · exact ⟨_, rfl, rfl⟩
  · exact ⟨_, rfl, rfl⟩
theorem o_fault {H : Hs} {D : Dy} {σc σm : xSt} (F k : Nat) (hF : 5000 ≤ F) (hk : k < 2) (hRR : RQ H D σc σm) : ∃ r σm', mX8_fault F (nI k) σc = some (r, σc) ∧ mX9_faultOf F (nI k) σm = some (r, σm') ∧ RQ H D σc σm' ∧ MH σm' H := by
  have hR := hRR.1
  obtain ⟨n0, B0, c0, m0⟩ := hR.1
  obtain ⟨n1, B1, c1, m1⟩ := hR.2.1
  obtain ⟨σ', a, b, c, d⟩ := m_faultOf F k (by omega) hk n0 n1 B0 B1 σm c0.1 c1.1 (fun j hj => (c0.2.2.1 j hj).1) (fun j hj => (c1.2.2.1 j hj).1) m0 m1
  have hM' : MH σ' H := by
    obtain ⟨n0', B0', n1', B1', rfl, b', c', d', e', g', k'⟩ := hRR.2.1.2.2.2.1
    obtain ⟨σ'', w1, w2, w3, w4⟩ := m_faultOf F k (by omega) hk n0' n1' B0' B1' σm b' c' d' e' g' k'
    rw [a] at w1
    have : σ' = σ'' := by injection w1 with w1; exact congrArg Prod.snd w1
    rw [this]
    exact MH_of c' w2 w3
  have h1 : 0 ≤ nI k ∧ nI k ≤ 1 := by
    rcases (show k = 0 ∨ k = 1 by omega) with rfl | rfl
    · decide
    · decide
  refine ⟨_, σ', ?_, a, RQ_cm hRR xFr_rf (xFr_mono d (by decide) (by decide)), hM'⟩
  unfold mX8_fault mX8_fault_L20
  simp only [c_noText, bI_nf h1, c_textOf F k hk, show decide (k < 2) = true from decide_eq_true hk, xb1_s, xb2_s, xck_1, i10, i00, i11, ↓reduceIte]
  rcases (show k = 0 ∨ k = 1 by omega) with rfl | rfl
  · rw [c_faultPlace F 0 n0 (by omega) (by omega) c0.1 B0 σc c0.2.1 c0.2.2.1, xb2_s, if_pos rfl]
  · rw [c_faultPlace F 1 n1 (by omega) (by omega) c1.1 B1 σc c1.2.1 c1.2.2.1, xb2_s, if_neg (by decide)]
theorem o_when {H : Hs} {D : Dy} {σc σm : xSt} (F pp : Nat) (hF : 5000 ≤ F) (hp : pp < hP H) (hRR : RQ H D σc σm) : ∃ r σc' σm', mX8_when F (nI pp) 0 σc = some (r, σc') ∧ mX9_when F (nI pp) 0 σm = some (r, σm') ∧ RQ H D σc' σm' ∧ MH σm' H := by
  have hR := hRR.1
  have hH := hRR.2.1
  have hB := hH.1
  have hb1 := hB.1
  have hb2 := hB.2.1
  unfold mX8_when mX9_when mX8_when_L22 mX9_when_L25 mX9_when_L27
  obtain ⟨σ1, a1, a2⟩ := m_isPerson' F (nI pp) (by omega) hB hH.2.2.2.1
  have hH1 := Hse_m hH a2
  have h2 := ix_ok hp (show hP H < 1000 by omega)
  obtain ⟨σ2, d0, d3, d2⟩ := m_reads F (by omega) hH1.2.2.2.1
  have d1 := m_isThing F 0 d0 d3 hB
  have hH2 := Hse_m hH1 d2
  simp only [a1, c_lacksPerson F _ σc H hH.2.1, bI_nf h2, bI_t h2, d1, c_lacksThing F 0 σc H hH.2.1, xb1_s, xb2_s, xck_1, i10, i00, i11, ↓reduceIte]
  by_cases h3 : ¬ (0 : Int32) < 0 ∧ 0 < nI (hT H)
  · have ht : 0 < hT H := by
      rcases Nat.eq_zero_or_pos (hT H) with e | e
      · rw [e] at h3; exact absurd h3.2 (by decide)
      · exact e
    simp only [bI_nf h3, bI_t h3, xb1_s, xb2_s, xck_1, i10, i00, i11, ↓reduceIte]
    obtain ⟨σ3, f1, f2, f3⟩ := m_reads F (by omega) hH2.2.2.2.1
    obtain ⟨σ4, g1, g2, g3, g4⟩ := m_asTold F f2 (MR_fr hH2.2.2.2.2.1 f3) hH.2.2.2.2.2.1 hH.2.2.2.2.2.2
    have f4 : xFr mI mA σm σ4 := xFr_tr (xFr_tr (xFr_tr a2 d2) f3) g4
    have hn := hH.2.2.2.2.1.1
    obtain ⟨nm, hm, tm, om, s1, s2, s3, s4⟩ := hR.2.2.2.2.1
    have f20 : xFr [20] [] σ4 (xsI σ4 20 (nI (D 0 0 + 1))) := xFr_sI (by decide)
    have hw : MDw (xsI σ4 20 (nI (D 0 0 + 1))) D := by
      refine ⟨?_, by rw [xI_sI, if_pos rfl]⟩
      obtain ⟨y1, y2, y3, y4, y5, y6, y7, y8, y9⟩ := g2
      exact ⟨y1, by rw [xI_sI, if_pos rfl], y3, y4, y5, y6, y7, y8, y9⟩
    have f5 : xFr mI mA σm (xsI σ4 20 (nI (D 0 0 + 1))) := xFr_tr f4 (xFr_mono f20 (by simp) (by simp))
    have hS4 : MSml (xsI σ4 20 (nI (D 0 0 + 1))) nm hm tm om := by unfold MSml; rw [f5.1 27 (by decide), f5.2 28 (by decide), f5.2 29 (by decide), f5.2 30 (by decide)]; exact s4
    have h10 : xI (xsI σ4 20 (nI (D 0 0 + 1))) 10 = nI (D 0 0) := by rw [f5.1 10 (by decide)]; exact hH.2.2.2.2.1.2.1
    have hM5 := MH_fr g3 f20 (by simp) (by simp)
    obtain ⟨r, σc', σm', w1, w2, w3, w4, w5, w6⟩ := cm_whenL F nm pp 0 hm tm om H D (by omega) hB hH.2.2.2.2.2.1 s1 (fun i hi => ⟨(s2.2.1 i hi).1, s3 i hi⟩) (by omega) (by omega) hn F 0 0 σc (xsI σ4 20 (nI (D 0 0 + 1))) (by omega) (by omega) hH.2.1 hH.2.2.1 s2 hM5 hw hS4 h10
    refine ⟨r, σc', σm', ?_, ?_, ?_, MH_fr hM5 w5 (by simp) (by simp)⟩
    · unfold mX1_hoursOf
      rw [show mX1_hoursOf_L5 F F (nI pp) 0 0 0 σc = _ from w1, xb2_s]
    · unfold mX9_whenOf
      rw [f1, xb1_s, g1, xb1_s, g2.2.1, nI_1]
      rw [show mX9_whenOf_L23 F F (nI pp) 0 0 0 (xsI σ4 20 (nI (D 0 0 + 1))) = _ from w2, xb2_s]
    · refine RQ_day hRR w3 rfl (fun e _ => ⟨rfl, rfl, rfl⟩) (xFr_mono w4 (by simp) (by simp)) (xFr_tr (xFr_mono f5 (by simp) (by simp)) (xFr_mono w5 (by simp) (by simp))) (fun e he => ?_)
      obtain ⟨x1, x2, x3⟩ := w6 e he
      rw [x1, x2, x3, f5.2 11 (by decide), f5.2 12 (by decide), f5.2 13 (by decide)]
      exact ⟨rfl, rfl, rfl⟩
  · simp only [bI_nt h3, bI_f h3, xb1_s, xb2_s, xck_1, i10, i00, i11, ↓reduceIte]
    exact ⟨_, _, _, rfl, rfl, RQ_cm hRR xFr_rf (xFr_tr a2 d2), d3⟩
