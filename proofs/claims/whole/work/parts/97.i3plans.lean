/-! ===== plans, as digest asks them ===== -/
def RS (H : Hs) (D : Dy) (x hr : Nat) (v lk wt ex : Int32) : Option (List Nat) := clR (fun t => decide (hasB v t)) (gX H D x hr lk wt) (mpX H ex) (hP H) (hT H)
theorem c_seatF {H : Hs} {D : Dy} {σc σm : xSt} (F x hr : Nat) (v lk wt ex i : Int32) (hF : 100 ≤ F) (hRR : RQ H D σc σm) (hx : x < 24) (hr1 : hr < 24) (hi : i = -1 ∨ ∃ j, j < 3 ∧ i = nI j) :
    ∃ σc', xb1 (mX4_aim F (nI x) (nI hr) lk wt σc) (fun σ61 => xb1 (mX4_seat F v ex σ61) (fun σ71 => xb2 (mX4_answer F i σ71) (fun r80 σ80 => some (r80, σ80)))) = some (ansR (RS H D x hr v lk wt ex) i, σc') ∧ RQ H D σc' σm := by
  have hH := hRR.2.1
  have hn := hH.2.2.2.2.1.1
  obtain ⟨σc1, a1, a2, a3, a4⟩ := c_seat F x hr v lk wt ex H D hF hH.1 hx hr1 hH.2.2.2.2.2.1 (by omega) σc hH.2.1 hH.2.2.1
  refine ⟨σc1, ?_, RQ_day hRR a2 rfl (fun e _ => ⟨rfl, rfl, rfl⟩) (xFr_mono a4 (by simp) (by simp)) xFr_rf (fun e _ => ⟨rfl, rfl, rfl⟩)⟩
  unfold mX4_aim at a1 ⊢
  rw [xb1_s] at a1 ⊢
  rw [a1, xb1_s, c_answer F i σc1 _ a3 hi, xb2_s]
  rfl
theorem m_seatF {H : Hs} {D : Dy} {σc σm : xSt} (F x hr : Nat) (v lk wt ex tv sv i : Int32) (G : List Nat → Bool) (hF : 100 ≤ F) (hRR : RQ H D σc σm) (hM' : MH σm H) (hx : x < 24) (hr1 : hr < 24) (hi : i = -1 ∨ ∃ j, j < 3 ∧ i = nI j) (hG : GV H D x hr tv sv G) (hS : ∀ L, G L = true ↔ GR (fun t => decide (hasB v t)) (gX H D x hr lk wt) (hT H) L) :
    ∃ σm', xb2 (mX9_sitsMore F ex (nI x) (nI hr) tv sv σm) (fun r17 σ17 => xb2 (mX9_ofRow F r17 i σ17) (fun r22 σ22 => some (r22, σ22))) = some (ansR (RS H D x hr v lk wt ex) i, σm') ∧ RowM σm' (RS H D x hr v lk wt ex) ∧ RQ H D σc σm' ∧ MH σm' H := by
  have hH := hRR.2.1
  have hB := hH.1
  obtain ⟨σ1, b1, b2, b3⟩ := m_sitsMore F x hr tv sv ex H D G hF hB hx hr1 hH.2.2.2.2.2.1 hH.2.2.2.2.2.2 hG σm hM' hH.2.2.2.2.1
  rw [modR_cl hB hS] at b1 b3
  refine ⟨σ1, ?_, b3, ?_, MH_K hM' b2⟩
  · rw [b1, xb2_s, m_ofRow F i σ1 _ b3 hi, xb2_s]; rfl
  · exact RQ_day hRR hH.2.2.1 rfl (fun e _ => ⟨rfl, rfl, rfl⟩) xFr_rf (xFr_mono b2.1 (by simp) (by simp)) (fun e he => b2.2 e he)
theorem ofRow_0 (F : Nat) (σ : xSt) (R : Option (List Nat)) (h : RowM σ R) : mX9_ofRow F (ansR R (-1)) 0 σ = some (ansR R 0, σ) := by
  have e : ansR R (-1) = szI R := by
    cases R with
    | none => rfl
    | some L => rfl
  rw [e]
  exact m_ofRow F 0 σ R h (Or.inr ⟨0, by omega, rfl⟩)
/-- hide, asked twice -/
theorem o_hide {H : Hs} {D : Dy} {σc σm : xSt} (F pp : Nat) (hF : 5000 ≤ F) (hp : pp < hP H) (hRR : RQ H D σc σm) : ∃ r1 r2 σc1 σc2 σm1, mX8_hide F (nI pp) 3 5 (-1) σc = some (r1, σc1) ∧ mX8_hide F (nI pp) 3 5 0 σc1 = some (r2, σc2) ∧ mX9_hideOf F (nI pp) 3 5 (-1) σm = some (r1, σm1) ∧ mX9_ofRow F r1 0 σm1 = some (r2, σm1) ∧ RQ H D σc2 σm1 := by
  have hB := hRR.2.1.1
  have hb1 := hB.1
  have hb2 := hB.2.1
  have h2 := ix_ok hp (show hP H < 1000 by omega)
  have cls : ∀ σ i, RQ H D σ σm → (¬ i < -1 ∧ i < 2) → ∃ σ', mX8_hide F (nI pp) 3 5 i σ = some (ansR (RS H D 3 5 63 (1 <<< (nI (hM H pp) &&& 31)) 0 (nI pp)) i, σ') ∧ RQ H D σ' σm := fun σ i hQ h4 => by
    have hi : i = -1 ∨ ∃ j, j < 3 ∧ i = nI j := by
      rcases rngM_c (N := 2) (by omega) (by decide) h4.1 h4.2 with h | ⟨j, hj, h⟩
      · exact Or.inl h
      · exact Or.inr ⟨j, by omega, h⟩
    obtain ⟨s1, s2, s3⟩ := hQ.2.1.2.1.2.2.2 pp hp
    obtain ⟨σ', a1, a2⟩ := c_seatF F 3 5 63 (1 <<< (nI (hM H pp) &&& 31)) 0 (nI pp) i (by omega) hQ (by omega) (by omega) hi
    refine ⟨σ', ?_, a2⟩
    unfold mX8_hide
    rw [c_lacksPerson F _ σ H hQ.2.1.2.1, bI_nf h2, xb2_s, if_pos rfl, c_noHour, show bI (¬ ((0 : Int32) ≤ 3 ∧ (3 : Int32) ≤ 23)) = 0 from rfl, xb2_s, if_pos rfl, c_noHour, show bI (¬ ((0 : Int32) ≤ 5 ∧ (5 : Int32) ≤ 23)) = 0 from rfl, xb2_s, if_pos rfl, if_neg h4.1, if_pos h4.2, xck_in (show pp < lnE 1 by show pp < 8; omega) (by decide), nI_clamp (by omega), show xA σ (12 + 1) pp = nI (hM H pp) from s3]
    exact a1
  obtain ⟨σc1, a1, a2⟩ := cls σc (-1) hRR (by decide)
  obtain ⟨σc2, b1, b2⟩ := cls σc1 0 a2 (by decide)
  obtain ⟨σ2, c1, c2, c3⟩ := m_reads F (by omega) b2.2.1.2.2.2.1
  obtain ⟨σm1, d1, d2, d3, d4⟩ := m_seatF F 3 5 63 (1 <<< (nI (hM H pp) &&& 31)) 0 (nI pp) (-1) (1 <<< (nI (hM H pp) &&& 31)) (-1) (fun L => decide ((allL H (fun t => dayL H (SL D 3 L) t (5 + 1)) (hT H) &&& (1 <<< (nI (hM H pp) &&& 31))) = 0)) (by omega) (RQ_cm b2 xFr_rf c3) c2 (by omega) (by omega) (Or.inl rfl) (Or.inl ⟨rfl, fun L => rfl⟩) (fun L => by
    rw [decide_eq_true_eq, allL_and]
    exact ⟨fun w t ht _ => decide_eq_true (w t ht), fun w t ht => of_decide_eq_true (w t ht (decide_eq_true (has63 t (by omega))))⟩)
  refine ⟨_, _, σc1, σc2, σm1, a1, b1, ?_, ofRow_0 F σm1 _ d2, d3⟩
  unfold mX9_hideOf
  rw [c1, xb1_s, m_smellOf F pp c2 hB hp, xb2_s]
  exact d1
/-- frame, asked twice -/
theorem o_frame {H : Hs} {D : Dy} {σc σm : xSt} (F : Nat) (hF : 5000 ≤ F) (hRR : RQ H D σc σm) : ∃ r1 r2 σc1 σc2 σm1, mX8_frame F 0 3 2 4 (-1) σc = some (r1, σc1) ∧ mX8_frame F 0 3 2 4 0 σc1 = some (r2, σc2) ∧ mX9_frame F 0 3 2 4 (-1) σm = some (r1, σm1) ∧ ((r1 = -2 ∧ r2 = -2) ∨ (¬ r1 = -2 ∧ mX9_ofRow F r1 0 σm1 = some (r2, σm1))) ∧ RQ H D σc2 σm1 := by
  have hB := hRR.2.1.1
  have hb1 := hB.1
  have hb2 := hB.2.1
  obtain ⟨σ1, a1, a2⟩ := m_isThing' F 0 (by omega) hB hRR.2.1.2.2.2.1
  have hQ1 : RQ H D σc σ1 := RQ_cm hRR xFr_rf a2
  by_cases h3 : ¬ (0 : Int32) < 0 ∧ 0 < nI (hT H)
  · have ht : 0 < hT H := by
      rcases Nat.eq_zero_or_pos (hT H) with e | e
      · rw [e] at h3; exact absurd h3.2 (by decide)
      · exact e
    have cls : ∀ σ i, RQ H D σ σ1 → (¬ i < -1 ∧ i < 2) → ∃ σ', mX8_frame F 0 3 2 4 i σ = some (ansR (RS H D 2 4 (1 <<< ((0 : Int32) &&& 31)) 255 3 (-1)) i, σ') ∧ RQ H D σ' σ1 := fun σ i hQ h4 => by
      have hi : i = -1 ∨ ∃ j, j < 3 ∧ i = nI j := by
        rcases rngM_c (N := 2) (by omega) (by decide) h4.1 h4.2 with h | ⟨j, hj, h⟩
        · exact Or.inl h
        · exact Or.inr ⟨j, by omega, h⟩
      obtain ⟨σ', a1, a2⟩ := c_seatF F 2 4 (1 <<< ((0 : Int32) &&& 31)) 255 3 (-1) i (by omega) hQ (by omega) (by omega) hi
      refine ⟨σ', ?_, a2⟩
      unfold mX8_frame
      rw [c_lacksThing F _ σ H hQ.2.1.2.1, bI_nf h3, xb2_s, if_pos rfl, c_noSmells, show bI (¬ ((0 : Int32) ≤ 3 ∧ (3 : Int32) ≤ 255)) = 0 from rfl, xb2_s, if_pos rfl, c_noHour, show bI (¬ ((0 : Int32) ≤ 2 ∧ (2 : Int32) ≤ 23)) = 0 from rfl, xb2_s, if_pos rfl, c_noHour, show bI (¬ ((0 : Int32) ≤ 4 ∧ (4 : Int32) ≤ 23)) = 0 from rfl, xb2_s, if_pos rfl, if_neg h4.1, if_pos h4.2]
      exact a1
    obtain ⟨σc1, b1, b2⟩ := cls σc (-1) hQ1 (by decide)
    obtain ⟨σc2, c1, c2⟩ := cls σc1 0 b2 (by decide)
    obtain ⟨σ2, d1, d2, d3⟩ := m_reads F (by omega) c2.2.1.2.2.2.1
    obtain ⟨σm1, e1, e2, e3, e4⟩ := m_seatF F 2 4 (1 <<< ((0 : Int32) &&& 31)) 255 3 (-1) (nI 0) 3 (-1) (fun L => decide (toldL (hN H 0) (dayL H (SL D 2 L) 0 (4 + 1)) = 3)) (by omega) (RQ_cm c2 xFr_rf d3) d2 (by omega) (by omega) (Or.inl rfl) (Or.inr ⟨0, ht, rfl, fun L => rfl⟩) (fun L => by
      rw [decide_eq_true_eq]
      have e := toldL255 (t := 0) (n := hN H 0) hB (OkL_day (D := SL D 2 L) hB ht (4 + 1))
      constructor
      · intro w t' ht' hs
        have : t' = 0 := (has1 0 (by omega) t' (by omega)).mp (of_decide_eq_true hs)
        subst this
        exact decide_eq_true (by rw [e]; exact w)
      · intro w
        have := of_decide_eq_true (w 0 ht (decide_eq_true ((has1 0 (by omega) 0 (by omega)).mpr rfl)))
        rw [e] at this; exact this)
    refine ⟨_, _, σc1, σc2, σm1, b1, c1, ?_, Or.inr ⟨?_, ofRow_0 F σm1 _ e2⟩, e3⟩
    · unfold mX9_frame mX9_frame_L60
      rw [a1, bI_t h3, xb2_s, if_neg (by decide), m_in, show bI ((0 : Int32) ≤ 3 ∧ (3 : Int32) ≤ 255) = 1 from rfl, xb2_s, if_neg (by decide), m_isHour, show bI ((0 : Int32) ≤ 2 ∧ (2 : Int32) ≤ 23) = 1 from rfl, xb2_s, if_neg (by decide), m_isHour, show bI ((0 : Int32) ≤ 4 ∧ (4 : Int32) ≤ 23) = 1 from rfl, xb2_s, if_neg (by decide), m_in, show bI ((-1 : Int32) ≤ -1 ∧ (-1 : Int32) ≤ 1) = 1 from rfl, xb2_s, if_neg (by decide), xb2_id]
      unfold mX9_frameOf
      rw [d1, xb1_s]
      exact e1
    · intro w
      cases q : RS H D 2 4 (1 <<< ((0 : Int32) &&& 31)) 255 3 (-1) with
      | none => rw [q] at w; exact absurd w (by decide)
      | some L =>
        rw [q] at w e2
        have hl := (e2 L rfl).1
        have w' : nI L.length = -2 := w
        rcases (show L.length = 0 ∨ L.length = 1 ∨ L.length = 2 ∨ L.length = 3 by omega) with h | h | h | h <;> (rw [h] at w'; exact absurd w' (by decide))
  · have cls : ∀ i, mX8_frame F 0 3 2 4 i σc = some (-2, σc) := fun i => by
      unfold mX8_frame mX8_frame_L45
      rw [c_lacksThing F _ σc H hRR.2.1.2.1, bI_nt h3, xb2_s, if_neg (by decide)]
    refine ⟨-2, -2, σc, σc, σ1, cls _, cls _, ?_, Or.inl ⟨rfl, rfl⟩, hQ1⟩
    unfold mX9_frame mX9_frame_L58 mX9_frame_L60
    rw [a1, bI_f h3, xb2_s, if_pos rfl]
/-- air, asked twice -/
theorem o_air {H : Hs} {D : Dy} {σc σm : xSt} (F : Nat) (hF : 5000 ≤ F) (hRR : RQ H D σc σm) : ∃ r1 r2 σc1 σc2 σm1, mX8_air F 1 4 6 (-1) σc = some (r1, σc1) ∧ mX8_air F 1 4 6 0 σc1 = some (r2, σc2) ∧ mX9_airOf F 1 4 6 (-1) σm = some (r1, σm1) ∧ mX9_ofRow F r1 0 σm1 = some (r2, σm1) ∧ RQ H D σc2 σm1 := by
  obtain ⟨σc1, a1, a2, a3⟩ := c_airF F 4 6 1 (-1) (by omega) hRR (by omega) (by omega) (by decide) (by decide)
  have hQ1 : RQ H D σc1 σm := RQ_win hRR a2 a3 xFr_rf (fun e _ => ⟨rfl, rfl⟩)
  obtain ⟨σc2, b1, b2, b3⟩ := c_airF F 4 6 1 0 (by omega) hQ1 (by omega) (by omega) (by decide) (by decide)
  have hQ2 : RQ H D σc2 σm := RQ_win hQ1 b2 b3 xFr_rf (fun e _ => ⟨rfl, rfl⟩)
  obtain ⟨σm1, c1, c2, c3, c4⟩ := m_airF F 4 6 1 (-1) (by omega) hQ2 (by omega) (by omega) (Or.inl rfl)
  exact ⟨_, _, σc1, σc2, σm1, a1, b1, c1, ofRow_0 F σm1 _ c2, RQ_win hQ2 b2 xFr_rf c3 c4⟩
