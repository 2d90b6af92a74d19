theorem CH_w {σ σ' : xSt} {H : Hs} (h : CH σ H) (f : xFr [14] [15, 18, 21, 24] σ σ') : CH σ' H := CH_fr h (f.1 _ (by decide)) (f.1 _ (by decide)) (fun a h1 h2 => f.2 a (by simp <;> omega))
theorem cm_dayEnd (F hr t n0 d : Nat) (H : Hs) (D : Dy) (hF : 100 ≤ F) (hr1 : hr < 24) (hB : HB H) (ht : t < hT H) (h7 : ∀ x, D 7 x = 0) (hn : D 0 0 = n0 + d) (hd : d ≤ 24) (σc σm : xSt) (hC : CH σc H) (hD : CD σc D) (hM' : MH σm H) (hE : MD σm D) :
    ∃ r σc' σm', mX2_tellsByLot_L100 F (nI hr) (nI t) (nI n0) σc = some (r, σc') ∧ mX9_dayOf_L101 F (nI hr) (nI t) σm = some (r, σm') ∧ CD σc' (setN D n0) ∧ xFr [1, 2, 14] [2, 3, 4, 15, 18, 21, 24] σc σc' ∧ xFr [] [17, 18, 19] σm σm' := by
  obtain ⟨σ1, a1, a2, a3⟩ := c_tellsBehind F t hr 0 H D hF hB ht hr1 (fun x hx => by
    rw [h7 x]
    have z : (0 : Int32) >>> (nI x &&& 31) &&& 1 = 0 := by
      rw [Int32.zero_shiftRight]; rfl
    exact propext ⟨fun w => absurd (z.symm.trans w) (by decide), fun w => absurd w (by decide)⟩) (fun x q => by rw [h7 x] at q; omega) σc hC hD
  obtain ⟨σ2, b1, b2, b3⟩ := c_dropsL F n0 (toldL (hN H t) (dayL H D t (hr + 1))) hF d F D σ1 hn (by omega) a3.2.1
  obtain ⟨σ3, c1, c2, c3⟩ := m_runs F hr H D hF hr1 hB (fun x _ q => by rw [h7 x] at q; omega) σm hM' hE
  refine ⟨toldL (hN H t) (dayL H D t (hr + 1)), σ2, σ3, ?_, ?_, b2, xFr_tr (xFr_mono a2 (by simp) (by simp)) (xFr_mono b3 (by simp) (by simp)), c2⟩
  · unfold mX2_tellsByLot_L100
    have e14 : xI σ1 (14 + 0) = nI (n0 + d) := by rw [← hn]; exact a3.2.1.2.1.1
    rw [a1, xb2_s, e14]; exact b1
  · unfold mX9_dayOf_L101
    rw [c1, xb1_s, m_tellsNow F t H hF hB ht _ σ3 (MH_l hM' c2) (c3 t ht).1, xb2_s]
theorem cm_dayL (F hr t n0 : Nat) (H : Hs) (hF : 100 ≤ F) (hr1 : hr < 24) (hn0 : n0 ≤ 20) (hB : HB H) (ht : t < hT H) : ∀ (fu i : Nat) (lot : Int32) (D : Dy) (σc σm : xSt), i ≤ hr + 1 → hr + 1 < i + fu → D 0 0 = n0 + i → (∀ x, D 7 x = 0) → CH σc H → CD σc D → MH σm H → MD σm D →
    ∃ r σc' σm' D', mX2_tellsByLot_L15 F fu (nI hr) (nI t) (nI n0) lot (nI i) σc = some (r, σc') ∧ mX9_dayOf_L14 F fu (nI hr) (nI t) lot (nI i) σm = some (r, σm') ∧ CD σc' D' ∧ D' 0 0 = n0 ∧ (∀ e, e < n0 → D' 1 e = D 1 e ∧ D' 2 e = D 2 e ∧ D' 3 e = D 3 e) ∧ xFr [1, 2, 14] [2, 3, 4, 15, 18, 21, 24] σc σc' ∧ xFr [20] [11, 12, 13, 17, 18, 19] σm σm' ∧ ∀ e, e < n0 → xA σm' 11 e = xA σm 11 e ∧ xA σm' 12 e = xA σm 12 e ∧ xA σm' 13 e = xA σm 13 e := by
  have hb1 := hB.1
  have hb2 := hB.2.1
  intro fu
  induction fu with
  | zero => intro i lot D σc σm a b; omega
  | succ fu ih =>
    intro i lot D σc σm a b hn h7 hC hD hM' hE
    have stop : ∃ r σc' σm' D', mX2_tellsByLot_L100 F (nI hr) (nI t) (nI n0) σc = some (r, σc') ∧ mX9_dayOf_L101 F (nI hr) (nI t) σm = some (r, σm') ∧ CD σc' D' ∧ D' 0 0 = n0 ∧ (∀ e, e < n0 → D' 1 e = D 1 e ∧ D' 2 e = D 2 e ∧ D' 3 e = D 3 e) ∧ xFr [1, 2, 14] [2, 3, 4, 15, 18, 21, 24] σc σc' ∧ xFr [20] [11, 12, 13, 17, 18, 19] σm σm' ∧ ∀ e, e < n0 → xA σm' 11 e = xA σm 11 e ∧ xA σm' 12 e = xA σm 12 e ∧ xA σm' 13 e = xA σm 13 e := by
      obtain ⟨r, σc', σm', w1, w2, w3, w4, w5⟩ := cm_dayEnd F hr t n0 i H D hF hr1 hB ht h7 hn (by omega) σc σm hC hD hM' hE
      exact ⟨r, σc', σm', setN D n0, w1, w2, w3, rfl, fun e _ => ⟨rfl, rfl, rfl⟩, w4, xFr_mono w5 (by simp) (by simp), fun e _ => by rw [w5.2 11 (by decide), w5.2 12 (by decide), w5.2 13 (by decide)]; exact ⟨rfl, rfl, rfl⟩⟩
    show ∃ r σc' σm' D', mX2_tellsByLot_S15 F (mX2_tellsByLot_L15 F fu) (nI hr) (nI t) (nI n0) lot (nI i) σc = some (r, σc') ∧ mX9_dayOf_S14 F (mX9_dayOf_L14 F fu) (nI hr) (nI t) lot (nI i) σm = some (r, σm') ∧ _
    unfold mX2_tellsByLot_S15 mX9_dayOf_S14 mX2_nextLot
    by_cases q : i = hr + 1
    · rw [if_pos (nI_lt (by omega) (by omega)), if_pos (nI_lt (by omega) (by omega))]
      exact stop
    · rw [if_neg (nI_nlt (by omega) (by omega)), if_neg (nI_nlt (by omega) (by omega))]
      simp only [show xI σc (12 + 1) = nI (hP H) from hC.2.2.1, show xI σc (12 + 0) = nI (hT H) from hC.1, hM'.1, hM'.2.2.1, nI_le0 (show hP H < 2 ^ 31 by omega), nI_le0 (show hT H < 2 ^ 31 by omega), show ¬ (hT H = 0) by omega, xb2_s, ↓reduceIte]
      by_cases q2 : hP H = 0
      · simp only [q2, ↓reduceIte]; exact stop
      · have nz : ∀ m, m < 100 → ¬ m = 0 → xnzI (nI m) = true := by decide
        have em : ∀ (x m : Nat), x < 65536 → 0 < m → m < 100 → nI x - nI x / nI m * nI m = nI (x % m) := fun x m h1 h2 h3 => pk_rem (d := m) (by omega) h2 (by omega)
        simp only [q2, nz (hP H) (by omega) q2, nz (hT H) (by omega) (show ¬ (hT H = 0) by omega), lot_nI, em _ (hP H) (lot_lt _) (by omega) (by omega), em _ (hT H) (lot_lt _) (by omega) (by omega), hE.2.1, nI_1, xb1_s, xb2_s, xck_1, i10, i00, i11, ↓reduceIte]
        have tl : lotX (1103515245 * (1103515245 * lot + 12345) + 12345) % hT H < hT H := Nat.mod_lt _ (by omega)
        have pl : lotX (1103515245 * lot + 12345) % hP H < hP H := Nat.mod_lt _ (by omega)
        have h44 : D 0 0 < 44 := by omega
        obtain ⟨σc1, a1, a2, a3⟩ := c_addD F i (lotX (1103515245 * (1103515245 * lot + 12345) + 12345) % hT H) (lotX (1103515245 * lot + 12345) % hP H) D σc hF (by omega) (by omega) (by omega) h44 hD
        obtain ⟨σm1, b1, b2, b3, b4, b5⟩ := m_addD F i (lotX (1103515245 * (1103515245 * lot + 12345) + 12345) % hT H) (lotX (1103515245 * lot + 12345) % hP H) D σm (by omega) (by omega) (by omega) h44 hE
        rw [a1, xb1_s, b1, xb1_s, b2, nI_1]
        obtain ⟨r, σc', σm', D', w1, w2, w3, w4, w5, w6, w7, w8⟩ := ih (i + 1) (1103515245 * (1103515245 * lot + 12345) + 12345) (Dadd D i (lotX (1103515245 * (1103515245 * lot + 12345) + 12345) % hT H) (lotX (1103515245 * lot + 12345) % hP H)) σc1 (xsI σm1 20 (nI (D 0 0 + 1))) (by omega) (by omega) (show D 0 0 + 1 = n0 + (i + 1) by omega) h7 (CH_w hC a3) a2 (MH_fr hM' b4 (by simp) (by simp)) b3
        refine ⟨r, σc', σm', D', w1, w2, w3, w4, fun e he => ?_, xFr_tr (xFr_mono a3 (by simp) (by simp)) w6, xFr_tr (xFr_mono b4 (by simp) (by simp)) w7, fun e he => ?_⟩
        · obtain ⟨x1, x2, x3⟩ := w5 e he
          rw [x1, x2, x3]
          exact ⟨ins_o (by omega), ins_o (by omega), ins_o (by omega)⟩
        · obtain ⟨x1, x2, x3⟩ := w8 e he
          obtain ⟨y1, y2, y3⟩ := b5 e (by omega)
          exact ⟨x1.trans y1, x2.trans y2, x3.trans y3⟩
theorem p_day (F : Nat) (hF : 5000 ≤ F) : zP_day F Rel := by
  intro σc σm hR sd h t
  obtain ⟨H, D, hH⟩ := Hse_of hR
  have hB := hH.1
  have hb1 := hB.1
  unfold mX8_day mX9_day mX8_day_L18 mX9_day_L25 mX9_day_L27
  by_cases h1 : 0 ≤ h ∧ h ≤ 23
  · obtain ⟨hr, hr1, rfl⟩ := rngI (n := 23) (by decide) (by decide) h1
    obtain ⟨σ1, a1, a2⟩ := m_isThing' F t (by omega) hB hH.2.2.2.1
    have hH1 := Hse_m hH a2
    simp only [c_noHour, m_isHour, bI_nf h1, bI_t h1, a1, c_lacksThing F t σc H hH.2.1, xb1_s, xb2_s, xck_1, i10, i00, i11, ↓reduceIte]
    by_cases h2 : ¬ t < 0 ∧ t < nI (hT H)
    · obtain ⟨tt, ht, rfl⟩ := lt_of_nI (by omega) h2.1 h2.2
      simp only [bI_nf h2, bI_t h2, xb1_s, xb2_s, xck_1, i10, i00, i11, ↓reduceIte]
      obtain ⟨σ3, f1, f2, f3⟩ := m_reads F (by omega) hH1.2.2.2.1
      have hR3 := MR_fr hH1.2.2.2.2.1 f3
      obtain ⟨σ4, g1, g2, g3, g4⟩ := m_asTold F f2 hR3 hH.2.2.2.2.2.1 hH.2.2.2.2.2.2
      have f4 : xFr mI mA σm σ4 := xFr_tr (xFr_tr a2 f3) g4
      have hn := hH.2.2.2.2.1.1
      obtain ⟨r, σc', σm', D', w1, w2, w3, w4, w5, w6, w7, w8⟩ := cm_dayL F hr tt (D 0 0) H (by omega) (by omega) hn hB ht F 0 sd D σc σ4 (by omega) (by omega) rfl hH.2.2.2.2.2.1 hH.2.1 hH.2.2.1 g3 g2
      refine ⟨r, σc', σm', ?_, ?_, ?_⟩
      · unfold mX2_tellsByLot
        rw [show xI σc (14 + 0) = nI (D 0 0) from hH.2.2.1.2.1.1]
        rw [show mX2_tellsByLot_L15 F F (nI hr) (nI tt) (nI (D 0 0)) sd 0 σc = _ from w1, xb2_s]
      · unfold mX9_dayOf
        rw [f1, xb1_s, g1, xb1_s]
        rw [show mX9_dayOf_L14 F F (nI hr) (nI tt) sd 0 σ4 = _ from w2, xb2_s]
      · have fm : xFr (mI ++ []) (mA ++ [11, 12, 13]) σm σm' := xFr_tr (xFr_mono f4 (by simp) (by simp)) (xFr_mono w7 (by simp) (by simp))
        refine Rel_wide hR (xFr_mono w6 (by simp) (by simp)) (xFr_mono fm (by simp) (by simp)) ?_ (RWin_fr hR.2.2.2.1 (w6.1 _ (by decide)) (w6.2 _ (by decide)) (w6.2 _ (by decide)) (w6.2 _ (by decide)) (w6.2 _ (by decide)) (fm.1 _ (by decide)) (fm.2 _ (by decide)) (fm.2 _ (by decide))) (RSml_fr hR.2.2.2.2.1 (w6.1 _ (by decide)) (w6.2 _ (by decide)) (w6.2 _ (by decide)) (w6.2 _ (by decide)) (w6.2 _ (by decide)) (fm.1 _ (by decide)) (fm.2 _ (by decide)) (fm.2 _ (by decide)) (fm.2 _ (by decide)))
        have ct := w3.2.1
        rw [w4] at ct
        have hmr := hH.2.2.2.2.1
        refine ⟨D 0 0, D' 1, D' 2, D' 3, hn, ct, fun i hi => ?_, by rw [fm.1 10 (by decide)]; exact hmr.2.1, fun i hi => ?_⟩
        · obtain ⟨x1, x2, x3⟩ := w5 i hi
          obtain ⟨y1, y2, y3, y4, y5, y6⟩ := hmr.2.2.1 i hi
          rw [x2, x3]; exact ⟨y5, y6⟩
        · obtain ⟨x1, x2, x3⟩ := w5 i hi
          obtain ⟨y1, y2, y3, y4, y5, y6⟩ := hmr.2.2.1 i hi
          obtain ⟨z1, z2, z3⟩ := w8 i hi
          rw [z1, z2, z3, x1, x2, x3, f4.2 11 (by decide), f4.2 12 (by decide), f4.2 13 (by decide)]
          exact ⟨y1, y2, y3⟩
    · simp only [bI_nt h2, bI_f h2, xb1_s, xb2_s, xck_1, i10, i00, i11, ↓reduceIte]
      exact ⟨_, _, _, rfl, rfl, Rel_cm hR xFr_rf a2⟩
  · simp only [c_noHour, m_isHour, bI_nt h1, bI_f h1, xb1_s, xb2_s, xck_1, i10, i00, i11, ↓reduceIte]
    exact ⟨_, _, _, rfl, rfl, hR⟩
