/-! ===== the relation, with house and day told ===== -/
def RQ (H : Hs) (D : Dy) (σc σm : xSt) : Prop := Rel σc σm ∧ Hse σc σm H D ∧ CTold σc 1 (D 4 0) (D 5) (D 6) (fun _ => 0)
theorem RQ_of {σc σm : xSt} (h : Rel σc σm) : ∃ H D, RQ H D σc σm := by
  obtain ⟨n0, B0, c0, m0⟩ := h.1
  obtain ⟨n1, B1, c1, m1⟩ := h.2.1
  obtain ⟨n, hs, ts, ps, s1, s2, s3, s4, s5⟩ := h.2.2.1
  obtain ⟨nw, hw, tw, w1, w2, w3, w4, w5⟩ := h.2.2.2.1
  refine ⟨mkH n0 B0 n1 B1, mkD n hs ts ps nw hw tw (fun _ => 0) 0, h, ⟨mkH_B c0.1 c1.1, CH_of c0 c1, ?_, ⟨n0, B0, n1, B1, rfl, c0.1, c1.1, fun j hj => (c0.2.2.1 j hj).1, fun j hj => (c1.2.2.1 j hj).1, m0, m1⟩, ?_, fun _ => rfl, rfl⟩, w2⟩
  · exact ⟨show n ≤ 44 by omega, s2, fun i hi => ⟨by have := (s3 i hi).1; show ts i < 1000; omega, by have := (s3 i hi).2; show ps i < 1000; omega⟩, show nw ≤ 11 by omega, ⟨_, w2⟩, fun i hi => by have := w3 i hi; show tw i < 1000; omega⟩
  · exact ⟨s1, s4, fun i hi => ⟨(s5 i hi).1, (s5 i hi).2.1, (s5 i hi).2.2, (s2.2.1 i hi).1, (s3 i hi).1, (s3 i hi).2⟩, w1, w4, fun i hi => ⟨(w5 i hi).1, (w5 i hi).2, (w2.2.1 i hi).1, w3 i hi⟩⟩
theorem RQ_cm {H : Hs} {D : Dy} {σc σc' σm σm' : xSt} (h : RQ H D σc σm) (fc : xFr [1, 2] [2, 3, 4] σc σc') (fm : xFr mI mA σm σm') : RQ H D σc' σm' :=
  ⟨Rel_cm h.1 fc fm, Hse_m (Hse_c h.2.1 fc) fm, CTold_fr h.2.2 (fc.1 _ (by decide)) (fc.2 _ (by decide)) (fc.2 _ (by decide)) (fc.2 _ (by decide)) (fc.2 _ (by decide))⟩
theorem RQ_day {σc σm σc' σm' : xSt} {H : Hs} {D D' : Dy} (hRR : RQ H D σc σm) (w3 : CD σc' D') (w4 : D' 0 0 = D 0 0) (w5 : ∀ e, e < D 0 0 → D' 1 e = D 1 e ∧ D' 2 e = D 2 e ∧ D' 3 e = D 3 e) (w6 : xFr [1, 2, 14, 3, 4, 5, 6, 7] [2, 3, 4, 15, 18, 21, 24, 0, 1] σc σc') (fm : xFr mI (mA ++ [11, 12, 13]) σm σm') (w8 : ∀ e, e < D 0 0 → xA σm' 11 e = xA σm 11 e ∧ xA σm' 12 e = xA σm 12 e ∧ xA σm' 13 e = xA σm 13 e) : RQ H D σc' σm' := by
  obtain ⟨hR, hH, hw⟩ := hRR
  have hw' : CTold σc' 1 (D 4 0) (D 5) (D 6) (fun _ => 0) := CTold_fr hw (w6.1 _ (by decide)) (w6.2 _ (by decide)) (w6.2 _ (by decide)) (w6.2 _ (by decide)) (w6.2 _ (by decide))
  refine ⟨Rel_day hR hH w3 w4 w5 w6 fm w8, ?_, hw'⟩
  obtain ⟨hB, hC, hD, hT', hR', h7, h8⟩ := hH
  refine ⟨hB, CH_fr hC (w6.1 _ (by decide)) (w6.1 _ (by decide)) (fun a h1 h2 => w6.2 a (by simp <;> omega)), ?_, MTx_fr hT' fm (by decide) (by decide), ?_, h7, h8⟩
  · obtain ⟨a, b, c, d, e, g⟩ := hD
    have ct := w3.2.1
    rw [w4] at ct
    exact ⟨a, CTold_cg w5 ct, c, d, ⟨_, hw'⟩, g⟩
  · obtain ⟨a, b, c, d, e, g⟩ := hR'
    refine ⟨a, by rw [fm.1 10 (by decide)]; exact b, fun i hi => ?_, d, by rw [fm.1 14 (by decide)]; exact e, fun i hi => ?_⟩
    · obtain ⟨x1, x2, x3⟩ := w8 i hi
      rw [x1, x2, x3]; exact c i hi
    · rw [fm.2 15 (by decide), fm.2 16 (by decide)]; exact g i hi
theorem RQ_win {σc σm σc' σm' : xSt} {H : Hs} {D : Dy} (hRR : RQ H D σc σm) (w3 : CDw σc' D) (w6 : xFr [1, 2, 15, 3, 4, 5, 6, 7] [2, 3, 4, 16, 19, 22, 25, 0] σc σc') (fm : xFr mI (mA ++ [15, 16]) σm σm') (w8 : ∀ e, e < D 4 0 → xA σm' 15 e = xA σm 15 e ∧ xA σm' 16 e = xA σm 16 e) : RQ H D σc' σm' := by
  obtain ⟨hR, hH, hw⟩ := hRR
  obtain ⟨hB, hC, hD, hT', hR', h7, h8⟩ := hH
  have hR2 : MR σm' D := by
    obtain ⟨a, b, c, d, e, g⟩ := hR'
    refine ⟨a, by rw [fm.1 10 (by decide)]; exact b, fun i hi => ?_, d, by rw [fm.1 14 (by decide)]; exact e, fun i hi => ?_⟩
    · rw [fm.2 11 (by decide), fm.2 12 (by decide), fm.2 13 (by decide)]; exact c i hi
    · obtain ⟨x1, x2⟩ := w8 i hi
      rw [x1, x2]; exact g i hi
  refine ⟨?_, ⟨hB, CH_fr hC (w6.1 _ (by decide)) (w6.1 _ (by decide)) (fun a h1 h2 => w6.2 a (by simp <;> omega)), w3.1, MTx_fr hT' fm (by decide) (by decide), hR2, h7, h8⟩, w3.2⟩
  refine Rel_wide hR (xFr_mono w6 (by simp) (by simp)) (xFr_mono fm (by simp) (by simp)) (RSit_fr hR.2.2.1 (w6.1 _ (by decide)) (w6.2 _ (by decide)) (w6.2 _ (by decide)) (w6.2 _ (by decide)) (w6.2 _ (by decide)) (fm.1 _ (by decide)) (fm.2 _ (by decide)) (fm.2 _ (by decide)) (fm.2 _ (by decide))) ?_ (RSml_fr hR.2.2.2.2.1 (w6.1 _ (by decide)) (w6.2 _ (by decide)) (w6.2 _ (by decide)) (w6.2 _ (by decide)) (w6.2 _ (by decide)) (fm.1 _ (by decide)) (fm.2 _ (by decide)) (fm.2 _ (by decide)) (fm.2 _ (by decide)))
  obtain ⟨a, b, c, d, e, g⟩ := hR2
  exact ⟨D 4 0, D 5, D 6, d, w3.2, fun i hi => (g i hi).2.2.2, e, fun i hi => ⟨(g i hi).1, (g i hi).2.1⟩⟩
/-! ===== air ===== -/
def RA (H : Hs) (D : Dy) (x hr : Nat) (v : Int32) : Option (List Nat) := clA (fun t => decide (hasB v t)) (wX H D x hr) (hT H)
theorem modA_cl {H : Hs} {D : Dy} {x hr : Nat} {v : Int32} (hB : HB H) : modA (GW H D x hr v) (hT H) = RA H D x hr v := by
  refine SpA_mod (S := fun t => decide (hasB v t)) (w := wX H D x hr) (fun L => ?_) (SpA_all (hT H))
  unfold GW
  rw [decide_eq_true_eq, selV_0]
  have e : ∀ t, t < hT H → (toldL (hN H t) (dayL H (WL D x L) t (hr + 1)) = 0 ↔ wX H D x hr t (L.count t) = true) := fun t ht => by
    show _ ↔ decide ((toldL (hN H t) (dayL H (WK D x t (L.count t)) t (hr + 1)) &&& 255) = 0) = true
    rw [decide_eq_true_eq, toldL255 (t := t) hB (OkL_day hB ht (hr + 1)), dayL_WK]
  exact ⟨fun w t ht hs => (e t ht).mp (w t ht (of_decide_eq_true hs)), fun w t ht hs => (e t ht).mpr (w t ht (decide_eq_true hs))⟩
theorem c_airF {σc σm : xSt} {H : Hs} {D : Dy} (F x hr : Nat) (v i : Int32) (hF : 100 ≤ F) (hRR : RQ H D σc σm) (hx : x < 24) (hr1 : hr < 24) (hv : ¬ v < 0 ∧ ¬ (63 < v)) (h4 : ¬ i < -1 ∧ i < 3) :
    ∃ σc', mX8_air F v (nI x) (nI hr) i σc = some (ansR (RA H D x hr v) i, σc') ∧ CDw σc' D ∧ xFr [1, 2, 15, 3, 4, 5, 6, 7] [2, 3, 4, 16, 19, 22, 25, 0] σc σc' := by
  obtain ⟨hR, ⟨hB, hC, hD, hT', hR', h7, h8⟩, hw⟩ := hRR
  obtain ⟨σ1, σ2, a1, a2, a3, a4, a5⟩ := c_open F x hr v H D hF hB hx hr1 h7 hR'.2.2.2.1 σc hC ⟨hD, hw⟩
  have hi : i = -1 ∨ ∃ j, j < 3 ∧ i = nI j := rngM_c (N := 3) (by omega) (by decide) h4.1 h4.2
  refine ⟨σ2, ?_, a3, a5⟩
  have hh : ∀ z, z < 24 → bI (¬ (0 ≤ nI z ∧ nI z ≤ 23)) = 0 := by decide +kernel
  unfold mX8_air
  rw [if_neg hv.1, if_neg hv.2, c_noHour, hh x hx, xb2_s, if_pos rfl, c_noHour, hh hr hr1, xb2_s, if_pos rfl, if_neg h4.1, if_pos h4.2, a1, xb1_s, a2, xb1_s, c_answer F i σ2 _ a4 hi, xb2_s]
  rfl
theorem m_airF {σc σm : xSt} {H : Hs} {D : Dy} (F x hr : Nat) (v i : Int32) (hF : 100 ≤ F) (hRR : RQ H D σc σm) (hx : x < 24) (hr1 : hr < 24) (hi : i = -1 ∨ ∃ j, j < 3 ∧ i = nI j) :
    ∃ σm', mX9_airOf F v (nI x) (nI hr) i σm = some (ansR (RA H D x hr v) i, σm') ∧ RowM σm' (RA H D x hr v) ∧ xFr mI (mA ++ [15, 16]) σm σm' ∧ ∀ e, e < D 4 0 → xA σm' 15 e = xA σm 15 e ∧ xA σm' 16 e = xA σm 16 e := by
  obtain ⟨hR, ⟨hB, hC, hD, hT', hR', h7, h8⟩, hw⟩ := hRR
  obtain ⟨σ2, b1, b2, b3⟩ := m_reads F hF hT'
  obtain ⟨σ3, c1, c2, c3⟩ := m_airsMore F x hr v H D hF hB hx hr1 h7 h8 σ2 b2 (MR_fr hR' b3)
  rw [modA_cl hB] at c1 c3
  refine ⟨σ3, ?_, c3, xFr_tr (xFr_mono b3 (by simp) (by simp)) (xFr_mono c2.1 (by simp) (by simp)), fun e he => ?_⟩
  · unfold mX9_airOf
    rw [b1, xb1_s, c1, xb2_s, m_ofRow F i σ3 _ c3 hi, xb2_s]
  · obtain ⟨y1, y2⟩ := c2.2 e he
    rw [y1, y2, b3.2 15 (by decide), b3.2 16 (by decide)]
    exact ⟨rfl, rfl⟩
theorem p_air (F : Nat) (hF : 5000 ≤ F) : zP_air F Rel := by
  intro σc σm hR v x hr i
  obtain ⟨H, D, hRR⟩ := RQ_of hR
  have ev : (0 ≤ v ∧ v ≤ 63) ↔ ¬ v < 0 ∧ ¬ (63 < v) := by rw [Int32.not_lt, Int32.not_lt]
  by_cases h1 : 0 ≤ v ∧ v ≤ 63
  · by_cases h2 : 0 ≤ x ∧ x ≤ 23
    · obtain ⟨xx, hx, rfl⟩ := rngI (n := 23) (by decide) (by decide) h2
      by_cases h3 : 0 ≤ hr ∧ hr ≤ 23
      · obtain ⟨rr, hr1, rfl⟩ := rngI (n := 23) (by decide) (by decide) h3
        by_cases h4 : ¬ i < -1 ∧ i < 3
        · have hi : i = -1 ∨ ∃ j, j < 3 ∧ i = nI j := rngM_c (N := 3) (by omega) (by decide) h4.1 h4.2
          obtain ⟨σc', a1, a2, a3⟩ := c_airF F xx rr v i (by omega) hRR (by omega) (by omega) (ev.mp h1) h4
          obtain ⟨σm', b1, b2, b3, b4⟩ := m_airF F xx rr v i (by omega) hRR (by omega) (by omega) hi
          refine ⟨_, σc', σm', a1, ?_, (RQ_win hRR a2 a3 b3 b4).1⟩
          unfold mX9_air mX9_air_L48
          simp only [m_in, m_isHour, rngM_eq (N := 2) (v := i) (hi := 2) (top := 3) (by decide) (by decide), xb1_s, xb2_s, xck_1, i10, i00, i11, ↓reduceIte]
          simp only [bI_t h1, bI_t h2, bI_t h3, bI_t h4, b1, xb1_s, xb2_s, xck_1, i10, i00, i11, ↓reduceIte]
        · refine ⟨-2, σc, σm, ?_, ?_, hR⟩
          · unfold mX8_air mX8_air_L36
            rw [if_neg (ev.mp h1).1, if_neg (ev.mp h1).2, c_noHour, bI_nf h2, xb2_s, if_pos rfl, c_noHour, bI_nf h3, xb2_s, if_pos rfl]
            by_cases q : i < -1
            · rw [if_pos q]
            · rw [if_neg q, if_neg (fun z => h4 ⟨q, z⟩)]
          · unfold mX9_air mX9_air_L46 mX9_air_L48
            simp only [m_in, m_isHour, rngM_eq (N := 2) (v := i) (hi := 2) (top := 3) (by decide) (by decide), xb1_s, xb2_s, xck_1, i10, i00, i11, ↓reduceIte]
            simp only [bI_t h1, bI_t h2, bI_t h3, bI_f h4, xb1_s, xb2_s, xck_1, i10, i00, i11, ↓reduceIte]
      · refine ⟨-2, σc, σm, ?_, ?_, hR⟩
        · unfold mX8_air mX8_air_L36
          rw [if_neg (ev.mp h1).1, if_neg (ev.mp h1).2, c_noHour, bI_nf h2, xb2_s, if_pos rfl, c_noHour, bI_nt h3, xb2_s, if_neg (by decide)]
        · unfold mX9_air mX9_air_L46 mX9_air_L48
          simp only [m_in, m_isHour, xb1_s, xb2_s, xck_1, i10, i00, i11, ↓reduceIte]
          simp only [bI_t h1, bI_t h2, bI_f h3, xb1_s, xb2_s, xck_1, i10, i00, i11, ↓reduceIte]
    · refine ⟨-2, σc, σm, ?_, ?_, hR⟩
      · unfold mX8_air mX8_air_L36
        rw [if_neg (ev.mp h1).1, if_neg (ev.mp h1).2, c_noHour, bI_nt h2, xb2_s, if_neg (by decide)]
      · unfold mX9_air mX9_air_L46 mX9_air_L48
        simp only [m_in, m_isHour, xb1_s, xb2_s, xck_1, i10, i00, i11, ↓reduceIte]
        simp only [bI_t h1, bI_f h2, xb1_s, xb2_s, xck_1, i10, i00, i11, ↓reduceIte]
  · refine ⟨-2, σc, σm, ?_, ?_, hR⟩
    · unfold mX8_air mX8_air_L36
      by_cases q : v < 0
      · rw [if_pos q]
      · rw [if_neg q]
        by_cases q2 : 63 < v
        · rw [if_pos q2]
        · exact absurd (ev.mpr ⟨q, q2⟩) h1
    · unfold mX9_air mX9_air_L46 mX9_air_L48
      simp only [m_in, bI_f h1, xb1_s, xb2_s, xck_1, i10, i00, i11, ↓reduceIte]
