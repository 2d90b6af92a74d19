theorem nI_eqL {n : Nat} (m : Nat) (hn : n < 2 ^ 31) (hm : m < 2 ^ 31) : (nI n = nI m) = (n = m) := propext (nI_eq hn hm)
theorem m_laysSit (F n h p t : Nat) (hn : n < 44) (σ : xSt) : mX9_laysSit F (nI n) (nI h) (nI p) (nI t) σ = some (xsA (xsA (xsA σ 11 n (nI h)) 12 n (nI p)) 13 n (nI t)) := by
  unfold mX9_laysSit
  rw [xck_in hn (by omega), xck_in hn (by omega), xck_in hn (by omega), nI_clamp (by omega)]
theorem cm_sit (F : Nat) (hF : 5000 ≤ F) (h p t : Int32) {σc σm : xSt} (hR : Rel σc σm) : ∃ (r : Int32) (σc' σm' : xSt), mX8_sit F h p t σc = some (r, σc') ∧ mX9_sit F h p t σm = some (r, σm') ∧ Rel σc' σm' ∧ (r = -2 ∨ r = -4 ∨ ∃ n, n < 20 ∧ r = nI (n + 1)) ∧ xFr [14] [15, 18, 21, 24] σc σc' ∧ xFr [10] [11, 12, 13] σm σm' := by
  unfold mX8_sit mX9_sit mX8_sit_L21 mX9_sit_L21
  by_cases h1 : 0 ≤ h ∧ h ≤ 23
  · by_cases h2 : 0 ≤ p ∧ p ≤ 7
    · by_cases h3 : 0 ≤ t ∧ t ≤ 5
      · obtain ⟨h', hh, rfl⟩ := rngI (n := 23) (by decide) (by decide) h1
        obtain ⟨p', hp, rfl⟩ := rngI (n := 7) (by decide) (by decide) h2
        obtain ⟨t', ht, rfl⟩ := rngI (n := 5) (by decide) (by decide) h3
        obtain ⟨n, fh, ft, fp, a1, a2, a3, a4, a5⟩ := hR.2.2.1
        have e20 : ((nI n : Int32) = 20) = (n = 20) := nI_eqL 20 (by omega) (by omega)
        simp only [c_noHour, m_isHour, c_noPersonNumber, m_isEight, c_noThingNumber, m_isSix, bI_nf h1, bI_t h1, bI_nf h2, bI_t h2, bI_nf h3, bI_t h3, c_isFull F 0 n (by omega) σc a2.1 a1, a4, e20, m_laysSit F n h' p' t' (by omega), xI_sA, nI_1, xb1_s, xb2_s, xck_1, i10, i00, i11, ↓reduceIte]
        by_cases hn : n = 20
        · have h4 : ¬ n < 20 := by omega
          simp only [hn, bI_nt h4, xb1_s, xb2_s, xck_1, i10, i00, i11, ↓reduceIte]
          simp only [show bI (¬ 20 < 20) = 1 from rfl, xb1_s, xb2_s, xck_1, i10, i00, i11, ↓reduceIte]
          exact ⟨_, _, _, rfl, rfl, hR, Or.inr (Or.inl rfl), xFr_rf, xFr_rf⟩
        · have h4 : n < 20 := by omega
          obtain ⟨σ1, q1, q2, q3⟩ := c_add F 0 n h' t' p' (by omega) (by omega) (by omega) fh ft fp (show n < lnT 0 by show n < 44; omega) σc a2
          simp only [bI_nf h4, hn, q1, xb1_s, xb2_s, xck_1, i10, i00, i11, ↓reduceIte]
          refine ⟨nI (n + 1), σ1, _, by rw [q2.1], by rw [xI_sI, if_pos rfl], ?_, Or.inr (Or.inr ⟨n, h4, rfl⟩), q3, ?_⟩
          · refine Rel_told hR 0 (by omega) q3 (xFr_tr (xFr_tr (xFr_tr (xFr_sA (by decide)) (xFr_sA (by decide))) (xFr_sA (by decide))) (xFr_sI (by decide))) ?_ ?_ ?_
            · refine ⟨n + 1, _, _, _, by omega, q2, fun i hi => ?_, by rw [xI_sI, if_pos rfl], fun i hi => ?_⟩
              · by_cases e : i = n
                · subst e; rw [ins_n, ins_n]; exact ⟨by omega, by omega⟩
                · rw [ins_o e, ins_o e]; exact a3 i (by omega)
              · simp only [xA_sI, xA_sA, ↓reduceIte, Nat.reduceEqDiff]
                rw [upd_e, upd_e, upd_e]
                by_cases e : i = n
                · subst e; rw [if_pos rfl, if_pos rfl, if_pos rfl, ins_n, ins_n, ins_n]; exact ⟨rfl, rfl, rfl⟩
                · rw [if_neg e, if_neg e, if_neg e, ins_o e, ins_o e, ins_o e]; exact a5 i (by omega)
            · exact RWin_fr hR.2.2.2.1 (q3.1 15 (by decide)) (q3.2 16 (by decide)) (q3.2 19 (by decide)) (q3.2 22 (by decide)) (q3.2 25 (by decide)) rfl rfl rfl
            · exact RSml_fr hR.2.2.2.2.1 (q3.1 16 (by decide)) (q3.2 17 (by decide)) (q3.2 20 (by decide)) (q3.2 23 (by decide)) (q3.2 26 (by decide)) rfl rfl rfl rfl
          · exact xFr_tr (xFr_tr (xFr_tr (xFr_sA (by decide)) (xFr_sA (by decide))) (xFr_sA (by decide))) (xFr_sI (by decide))
      · simp only [c_noHour, m_isHour, c_noPersonNumber, m_isEight, c_noThingNumber, m_isSix, bI_nf h1, bI_t h1, bI_nf h2, bI_t h2, bI_nt h3, bI_f h3, xb1_s, xb2_s, xck_1, i10, i00, i11, ↓reduceIte]
        exact ⟨_, _, _, rfl, rfl, hR, Or.inl rfl, xFr_rf, xFr_rf⟩
    · simp only [c_noHour, m_isHour, c_noPersonNumber, m_isEight, bI_nf h1, bI_t h1, bI_nt h2, bI_f h2, xb1_s, xb2_s, xck_1, i10, i00, i11, ↓reduceIte]
      exact ⟨_, _, _, rfl, rfl, hR, Or.inl rfl, xFr_rf, xFr_rf⟩
  · simp only [c_noHour, m_isHour, bI_nt h1, bI_f h1, xb1_s, xb2_s, xck_1, i10, i00, i11, ↓reduceIte]
    exact ⟨_, _, _, rfl, rfl, hR, Or.inl rfl, xFr_rf, xFr_rf⟩
theorem p_sit (F : Nat) (hF : 5000 ≤ F) : zP_sit F Rel := by
  intro σc σm hR h p t
  obtain ⟨r, s1, s2, q1, q2, q3, -⟩ := cm_sit F hF h p t hR
  exact ⟨r, s1, s2, q1, q2, q3⟩
theorem p_window (F : Nat) (hF : 5000 ≤ F) : zP_window F Rel := by
  intro σc σm hR h t
  unfold mX8_window mX9_window mX8_window_L14 mX9_window_L14
  by_cases h1 : 0 ≤ h ∧ h ≤ 23
  · by_cases h3 : 0 ≤ t ∧ t ≤ 5
    · obtain ⟨h', hh, rfl⟩ := rngI (n := 23) (by decide) (by decide) h1
      obtain ⟨t', ht, rfl⟩ := rngI (n := 5) (by decide) (by decide) h3
      obtain ⟨n, fh, ft, a1, a2, a3, a4, a5⟩ := hR.2.2.2.1
      have e20 : ((nI n : Int32) = 8) = (n = 8) := nI_eqL 8 (by omega) (by omega)
      simp only [c_noHour, m_isHour, c_noThingNumber, m_isSix, bI_nf h1, bI_t h1, bI_nf h3, bI_t h3, c_isFull F 1 n (by omega) σc a2.1 (by omega), a4, e20, xI_sA, nI_1, nI_clamp (show n < 2 ^ 31 by omega), xin_nI (show n < 11 by omega) (by omega), show ¬ (1 = 0) from by decide, xb1_s, xb2_s, xck_1, i10, i00, i11, ↓reduceIte]
      by_cases hn : n = 8
      · have h4 : ¬ n < 8 := by omega
        simp only [hn, bI_nt h4, xb1_s, xb2_s, xck_1, i10, i00, i11, ↓reduceIte]
        simp only [show bI (¬ 8 < 8) = 1 from rfl, xb1_s, xb2_s, xck_1, i10, i00, i11, ↓reduceIte]
        exact ⟨_, _, _, rfl, rfl, hR⟩
      · have h4 : n < 8 := by omega
        obtain ⟨σ1, q1, q2, q3⟩ := c_add F 1 n h' t' 0 (by omega) (by omega) (by omega) fh ft (fun _ => 0) (show n < lnT 1 by show n < 11; omega) σc a2
        have q1' : mX7_add F 1 (nI h') (nI t') 0 σc = some σ1 := q1
        simp only [bI_nf h4, hn, q1', xb1_s, xb2_s, xck_1, i10, i00, i11, ↓reduceIte]
        refine ⟨nI (n + 1), σ1, _, by rw [q2.1], by rw [xI_sI, if_pos rfl], ?_⟩
        refine Rel_told hR 1 (by omega) q3 (xFr_tr (xFr_tr (xFr_sA (by decide)) (xFr_sA (by decide))) (xFr_sI (by decide))) ?_ ?_ ?_
        · exact RSit_fr hR.2.2.1 (q3.1 14 (by decide)) (q3.2 15 (by decide)) (q3.2 18 (by decide)) (q3.2 21 (by decide)) (q3.2 24 (by decide)) rfl rfl rfl rfl
        · have e0 : ins (fun _ => 0) n 0 = fun _ => 0 := by funext i; unfold ins; by_cases e : i = n <;> simp [e]
          rw [e0] at q2
          refine ⟨n + 1, _, _, by omega, q2, fun i hi => ?_, by rw [xI_sI, if_pos rfl], fun i hi => ?_⟩
          · by_cases e : i = n
            · subst e; rw [ins_n]; omega
            · rw [ins_o e]; exact a3 i (by omega)
          · rw [xA_sI, xA_sI, xA_s0 (by decide), xA_s1, xA_s1, xA_s0 (by decide), upd_e, upd_e]
            by_cases e : i = n
            · subst e; rw [if_pos rfl, if_pos rfl, ins_n, ins_n]; exact ⟨rfl, rfl⟩
            · rw [if_neg e, if_neg e, ins_o e, ins_o e]; exact a5 i (by omega)
        · exact RSml_fr hR.2.2.2.2.1 (q3.1 16 (by decide)) (q3.2 17 (by decide)) (q3.2 20 (by decide)) (q3.2 23 (by decide)) (q3.2 26 (by decide)) rfl rfl rfl rfl
    · simp only [c_noHour, m_isHour, c_noThingNumber, m_isSix, bI_nf h1, bI_t h1, bI_nt h3, bI_f h3, xb1_s, xb2_s, xck_1, i10, i00, i11, ↓reduceIte]
      exact ⟨_, _, _, rfl, rfl, hR⟩
  · simp only [c_noHour, m_isHour, bI_nt h1, bI_f h1, xb1_s, xb2_s, xck_1, i10, i00, i11, ↓reduceIte]
    exact ⟨_, _, _, rfl, rfl, hR⟩
theorem p_smelt (F : Nat) (hF : 5000 ≤ F) : zP_smelt F Rel := by
  intro σc σm hR h t o
  unfold mX8_smelt mX9_smelt mX8_smelt_L21 mX9_smelt_L25
  by_cases h1 : 0 ≤ h ∧ h ≤ 23
  · by_cases h3 : 0 ≤ t ∧ t ≤ 5
    · by_cases h2 : 0 ≤ o ∧ o ≤ 255
      · obtain ⟨h', hh, rfl⟩ := rngI (n := 23) (by decide) (by decide) h1
        obtain ⟨t', ht, rfl⟩ := rngI (n := 5) (by decide) (by decide) h3
        obtain ⟨o', ho, rfl⟩ := rngI (n := 255) (by decide) (by decide) h2
        obtain ⟨n, fh, ft, fo, a1, a2, a3, a4, a5⟩ := hR.2.2.2.2.1
        have e20 : ((nI n : Int32) = 8) = (n = 8) := nI_eqL 8 (by omega) (by omega)
        simp only [c_noHour, m_isHour, c_noThingNumber, m_isSix, c_noSmells, m_in, bI_nf h1, bI_t h1, bI_nf h3, bI_t h3, bI_nf h2, bI_t h2, c_isFull F 2 n (by omega) σc a2.1 (by omega), a4, e20, xI_sA, nI_1, nI_clamp (show n < 2 ^ 31 by omega), show ¬ (2 = 0) from by decide, xb1_s, xb2_s, xck_1, i10, i00, i11, ↓reduceIte]
        by_cases hn : n = 8
        · have h4 : ¬ n < 8 := by omega
          simp only [hn, bI_nt h4, xb1_s, xb2_s, xck_1, i10, i00, i11, ↓reduceIte]
          simp only [show bI (¬ 8 < 8) = 1 from rfl, xb1_s, xb2_s, xck_1, i10, i00, i11, ↓reduceIte]
          exact ⟨_, _, _, rfl, rfl, hR⟩
        · have h4 : n < 8 := by omega
          obtain ⟨σ1, q1, q2, q3⟩ := c_add F 2 n h' t' o' (by omega) (by omega) (by omega) fh ft fo (show n < lnT 2 by show n < 8; omega) σc a2
          simp only [bI_nf h4, hn, q1, xin_nI (show n < 8 by omega) (by omega), xb1_s, xb2_s, xck_1, i10, i00, i11, ↓reduceIte]
          refine ⟨nI (n + 1), σ1, _, by rw [q2.1], by rw [xI_sI, if_pos rfl], ?_⟩
          refine Rel_told hR 2 (by omega) q3 (xFr_tr (xFr_tr (xFr_tr (xFr_sA (by decide)) (xFr_sA (by decide))) (xFr_sA (by decide))) (xFr_sI (by decide))) ?_ ?_ ?_
          · exact RSit_fr hR.2.2.1 (q3.1 14 (by decide)) (q3.2 15 (by decide)) (q3.2 18 (by decide)) (q3.2 21 (by decide)) (q3.2 24 (by decide)) rfl rfl rfl rfl
          · exact RWin_fr hR.2.2.2.1 (q3.1 15 (by decide)) (q3.2 16 (by decide)) (q3.2 19 (by decide)) (q3.2 22 (by decide)) (q3.2 25 (by decide)) rfl rfl rfl
          · refine ⟨n + 1, _, _, _, by omega, q2, fun i hi => ?_, by rw [xI_sI, if_pos rfl], fun i hi => ?_⟩
            · by_cases e : i = n
              · subst e; rw [ins_n, ins_n]; exact ⟨by omega, by omega⟩
              · rw [ins_o e, ins_o e]; exact a3 i (by omega)
            · rw [xA_sI, xA_sI, xA_sI, xA_s0 (by decide), xA_s0 (by decide), xA_s1, xA_s0 (by decide), xA_s1, xA_s0 (by decide), xA_s1, xA_s0 (by decide), xA_s0 (by decide), upd_e, upd_e, upd_e]
              by_cases e : i = n
              · subst e; rw [if_pos rfl, if_pos rfl, if_pos rfl, ins_n, ins_n, ins_n]; exact ⟨rfl, rfl, rfl⟩
              · rw [if_neg e, if_neg e, if_neg e, ins_o e, ins_o e, ins_o e]; exact a5 i (by omega)
      · simp only [c_noHour, m_isHour, c_noThingNumber, m_isSix, c_noSmells, m_in, bI_nf h1, bI_t h1, bI_nf h3, bI_t h3, bI_nt h2, bI_f h2, xb1_s, xb2_s, xck_1, i10, i00, i11, ↓reduceIte]
        exact ⟨_, _, _, rfl, rfl, hR⟩
    · simp only [c_noHour, m_isHour, c_noThingNumber, m_isSix, bI_nf h1, bI_t h1, bI_nt h3, bI_f h3, xb1_s, xb2_s, xck_1, i10, i00, i11, ↓reduceIte]
      exact ⟨_, _, _, rfl, rfl, hR⟩
  · simp only [c_noHour, m_isHour, bI_nt h1, bI_f h1, xb1_s, xb2_s, xck_1, i10, i00, i11, ↓reduceIte]
    exact ⟨_, _, _, rfl, rfl, hR⟩
theorem p_forget (F : Nat) (hF : 5000 ≤ F) : zP_forget F Rel := by
  intro σc σm hR
  obtain ⟨n, fh, ft, fo, a1, a2, a3, a4, a5⟩ := hR.2.2.2.2.1
  refine ⟨nI n, xsI σc 16 0, xsI σm 27 0, ?_, ?_, ?_⟩
  · show some (xI σc (14 + 2), xsI σc (14 + 2) 0) = _
    rw [a2.1]
  · show some (xI σm 27, xsI σm 27 0) = _
    rw [a4]
  · refine Rel_told hR 2 (by omega) (xFr_sI (by decide)) (xFr_sI (by decide)) ?_ ?_ ?_
    · exact RSit_fr hR.2.2.1 rfl rfl rfl rfl rfl rfl rfl rfl rfl
    · exact RWin_fr hR.2.2.2.1 rfl rfl rfl rfl rfl rfl rfl rfl
    · refine ⟨0, fun _ => 0, fun _ => 0, fun _ => 0, by omega, ⟨rfl, fun i hi => absurd hi (by omega), fun i q hq => ?_⟩, fun i hi => absurd hi (by omega), rfl, fun i hi => absurd hi (by omega)⟩
      have : bks (fun _ => 0) 0 0 24 = [] := by decide
      rw [this] at hq
      simp at hq
theorem p_back (F : Nat) (hF : 5000 ≤ F) : zP_back F Rel := by
  intro σc σm hR w
  unfold mX8_back mX9_back mX8_back_L12 mX8_back_L33 mX9_back_L27
  by_cases h1 : 0 ≤ w ∧ w ≤ 1
  · obtain ⟨w', hw, rfl⟩ := rngI (n := 1) (by decide) (by decide) h1
    simp only [m_in, bI_t h1, xb1_s, xb2_s, xck_1, i10, i00, i11, ↓reduceIte]
    rcases (show w' = 0 ∨ w' = 1 by omega) with rfl | rfl
    · simp only [show (nI 0 : Int32) = 0 from rfl, show decide (0 < 3) = true from rfl, xb1_s, xb2_s, xck_1, i10, i00, i11, ↓reduceIte]
      obtain ⟨n, fh, ft, fp, a1, a2, a3, a4, a5⟩ := hR.2.2.1
      rw [show (14 + 0) = 14 from rfl, a2.1, a4]
      rcases Nat.eq_zero_or_pos n with e | e
      · subst e
        simp only [show (nI 0 : Int32) = 0 from rfl, xb1_s, xb2_s, xck_1, i10, i00, i11, ↓reduceIte]
        exact ⟨_, _, _, rfl, rfl, hR⟩
      · obtain ⟨m, rfl⟩ : ∃ m, n = m + 1 := ⟨n - 1, by omega⟩
        obtain ⟨σ1, q1, q2, q3⟩ := c_drop F 0 m (by omega) (by omega) fh ft fp (show m < lnT 0 by show m < 44; omega) σc a2
        have q3' : xFr [14] [15, 18, 21, 24] σc σ1 := xFr_mono q3 (by simp) (by simp)
        simp only [nI_eq0 (show m + 1 < 2 ^ 31 by omega), show ¬ (m + 1 = 0) from by omega, q1, xb1_s, xb2_s, xck_1, i10, i00, i11, ↓reduceIte]
        unfold mX9_back_L49 mX9_back_L68
        simp only [show ¬ ((0 : Int32) = 1) from by decide, nI_pred, Int32.sub_zero, a4, xb1_s, xb2_s, xck_1, i10, i00, i11, ↓reduceIte]
        refine ⟨nI m, σ1, _, by rw [show xI σ1 14 = nI m from q2.1], rfl, ?_⟩
        rw [xI_sI, if_neg (by decide)]
        refine Rel_told hR 0 (by omega) q3' (xFr_tr (xFr_sI (by decide)) (xFr_sI (by decide))) ?_ ?_ ?_
        · refine ⟨m, _, _, _, by omega, q2, fun i hi => a3 i (by omega), by rw [xI_sI, if_neg (by decide), xI_sI, if_pos rfl], fun i hi => ?_⟩
          exact a5 i (by omega)
        · exact RWin_fr hR.2.2.2.1 (q3'.1 15 (by decide)) (q3'.2 16 (by decide)) (q3'.2 19 (by decide)) (q3'.2 22 (by decide)) (q3'.2 25 (by decide)) (by rw [xI_sI, if_pos rfl]) rfl rfl
        · exact RSml_fr hR.2.2.2.2.1 (q3'.1 16 (by decide)) (q3'.2 17 (by decide)) (q3'.2 20 (by decide)) (q3'.2 23 (by decide)) (q3'.2 26 (by decide)) (by rw [xI_sI, if_neg (by decide), xI_sI, if_neg (by decide)]) rfl rfl rfl
    · simp only [show (nI 1 : Int32) = 1 from rfl, show decide (1 < 3) = true from rfl, xb1_s, xb2_s, xck_1, i10, i00, i11, ↓reduceIte]
      obtain ⟨n, fh, ft, a1, a2, a3, a4, a5⟩ := hR.2.2.2.1
      rw [show (14 + 1) = 15 from rfl, show xI σc 15 = nI n from a2.1, a4]
      rcases Nat.eq_zero_or_pos n with e | e
      · subst e
        simp only [show (nI 0 : Int32) = 0 from rfl, xb1_s, xb2_s, xck_1, i10, i00, i11, ↓reduceIte]
        exact ⟨_, _, _, rfl, rfl, hR⟩
      · obtain ⟨m, rfl⟩ : ∃ m, n = m + 1 := ⟨n - 1, by omega⟩
        obtain ⟨σ1, q1, q2, q3⟩ := c_drop F 1 m (by omega) (by omega) fh ft (fun _ => 0) (show m < lnT 1 by show m < 11; omega) σc a2
        have q3' : xFr [15] [16, 19, 22, 25] σc σ1 := xFr_mono q3 (by simp) (by simp)
        simp only [nI_eq0 (show m + 1 < 2 ^ 31 by omega), show ¬ (m + 1 = 0) from by omega, q1, xb1_s, xb2_s, xck_1, i10, i00, i11, ↓reduceIte]
        unfold mX9_back_L49 mX9_back_L68
        simp only [nI_pred, Int32.sub_zero, xb1_s, xb2_s, xck_1, i10, i00, i11, ↓reduceIte]
        have e14 : xI (xsI σm 10 (xI σm 10)) 14 = nI (m + 1) := by rw [xI_sI, if_neg (by decide)]; exact a4
        rw [e14, nI_pred]
        refine ⟨nI m, σ1, _, by rw [show xI σ1 15 = nI m from q2.1], rfl, ?_⟩
        refine Rel_told hR 1 (by omega) q3' (xFr_tr (xFr_sI (by decide)) (xFr_sI (by decide))) ?_ ?_ ?_
        · exact RSit_fr hR.2.2.1 (q3'.1 14 (by decide)) (q3'.2 15 (by decide)) (q3'.2 18 (by decide)) (q3'.2 21 (by decide)) (q3'.2 24 (by decide)) (by rw [xI_sI, if_neg (by decide), xI_sI, if_pos rfl]) rfl rfl rfl
        · refine ⟨m, _, _, by omega, q2, fun i hi => a3 i (by omega), by rw [xI_sI, if_pos rfl], fun i hi => ?_⟩
          exact a5 i (by omega)
        · exact RSml_fr hR.2.2.2.2.1 (q3'.1 16 (by decide)) (q3'.2 17 (by decide)) (q3'.2 20 (by decide)) (q3'.2 23 (by decide)) (q3'.2 26 (by decide)) (by rw [xI_sI, if_neg (by decide), xI_sI, if_neg (by decide)]) rfl rfl rfl
  · have e1 : ¬ w = 0 := fun e => h1 (by rw [e]; decide)
    have e2 : ¬ w = 1 := fun e => h1 (by rw [e]; decide)
    simp only [m_in, bI_f h1, e1, e2, xb1_s, xb2_s, xck_1, i10, i00, i11, ↓reduceIte]
    exact ⟨_, _, _, rfl, rfl, hR⟩
theorem cm_readL (F : Nat) (hF : 5000 ≤ F) (k n : Nat) (hk : k < 4) (hn : n ≤ 60) : ∀ (fu i : Nat) (σc σm : xSt), i ≤ 20 → 21 ≤ i + fu → Rel σc σm → xI σc (24 + k) = nI n → xA σm 34 k = nI n → (∀ j, j < 60 → xA σc (30 + k) j = xA σm 35 (60 * k + j)) →
    ∃ (r : Int32) (σc' σm' : xSt), mX8_read_L35 F fu k (nI i) (nI (3 * i)) σc = some (r, σc') ∧ mX9_read_L27 F fu (nI k) (nI i) σm = some (r, σm') ∧ Rel σc' σm' := by
  intro fu
  induction fu with
  | zero => intro i σc σm h1 h2; omega
  | succ fu ih =>
    intro i σc σm h1 h2 hR c1 m1 it
    show ∃ (r : Int32) (σc' σm' : xSt), mX8_read_S35 F (mX8_read_L35 F fu) k (nI i) (nI (3 * i)) σc = some (r, σc') ∧ mX9_read_S27 F (mX9_read_L27 F fu) (nI k) (nI i) σm = some (r, σm') ∧ _
    unfold mX8_read_S35 mX9_read_S27 mX8_read_L87 mX8_read_L75 mX9_read_L97
    have e2 : nI (3 * i) + 2 = nI (3 * i + 2) := nI_add _ 2
    have e3 : (3 : Int32) * nI i = nI (3 * i) := pk_mul 3 i
    have e4 : (60 : Int32) * nI k = nI (60 * k) := pk_mul 60 k
    have e5 : nI (60 * k + 3 * i) + 2 = nI (60 * k + 3 * i + 2) := nI_add _ 2
    have e6 : nI (3 * i) + 3 = nI (3 * (i + 1)) := by rw [show 3 * (i + 1) = 3 * i + 3 by omega]; exact nI_add _ 3
    simp only [show decide (k < 4) = true from decide_eq_true hk, c1, m1, e2, e3, e4, e5, e6, nI_add, nI_1, xin_nI (show k < 4 by omega) (by omega), nI_clamp (show k < 2 ^ 31 by omega), xb1_s, xb2_s, xck_1, i10, i00, i11, ↓reduceIte]
    by_cases hle : n ≤ 3 * i + 2
    · simp only [eq_true (nI_le hle (by omega)), xb1_s, xb2_s, xck_1, i10, i00, i11, ↓reduceIte]
      exact ⟨_, _, _, rfl, rfl, hR⟩
    · simp only [eq_false (nI_ge (Nat.not_le.mp hle) (by omega)), c_item F k n (3 * i) σc hn (by omega) c1, c_item F k n (3 * i + 1) σc hn (by omega) c1, c_item F k n (3 * i + 2) σc hn (by omega) c1, xin_nI (show 60 * k + 3 * i < 240 by omega) (by omega), xin_nI (show 60 * k + 3 * i + 1 < 240 by omega) (by omega), xin_nI (show 60 * k + 3 * i + 2 < 240 by omega) (by omega), nI_clamp (show 60 * k + 3 * i < 2 ^ 31 by omega), nI_clamp (show 60 * k + 3 * i + 1 < 2 ^ 31 by omega), nI_clamp (show 60 * k + 3 * i + 2 < 2 ^ 31 by omega), xb1_s, xb2_s, xck_1, i10, i00, i11, ↓reduceIte]
      have i0 := it (3 * i) (by omega)
      have i1 := it (3 * i + 1) (by omega)
      have i2 := it (3 * i + 2) (by omega)
      rw [show 60 * k + (3 * i + 1) = 60 * k + 3 * i + 1 by omega] at i1
      rw [show 60 * k + (3 * i + 2) = 60 * k + 3 * i + 2 by omega] at i2
      rw [← i0, ← i1, ← i2]
      obtain ⟨r, s1, s2, q1, q2, q3, q4, q5, q6⟩ := cm_sit F hF (xA σc (30 + k) (3 * i)) (xA σc (30 + k) (3 * i + 1)) (xA σc (30 + k) (3 * i + 2)) hR
      rw [q1, q2, xb2_s, xb2_s]
      rcases q4 with rfl | rfl | ⟨z, hz, rfl⟩
      · exact ⟨_, _, _, rfl, rfl, q3⟩
      · exact ⟨_, _, _, rfl, rfl, q3⟩
      · rw [if_pos (nI_pos' (by omega)), if_neg (nI_nle (by omega) (by omega))]
        refine ih (i + 1) s1 s2 (by omega) (by omega) q3 (by rw [q5.1 _ (by simp; omega)]; exact c1) (by rw [q6.2 34 (by decide)]; exact m1) (fun j hj => ?_)
        rw [q5.2 (30 + k) (by simp; omega), q6.2 35 (by decide)]
        exact it j hj
theorem p_read (F : Nat) (hF : 5000 ≤ F) : zP_read F Rel := by
  intro σc σm hR s
  unfold mX8_read mX9_read
  by_cases h1 : 0 ≤ s ∧ s ≤ 3
  · simp only [c_noSheet, m_isSheet, bI_nf h1, bI_t h1, xb1_s, xb2_s, xck_1, i10, i00, i11, ↓reduceIte]
    obtain ⟨k, hk, rfl⟩ := rngI (n := 3) (by decide) (by decide) h1
    have e1 := xin_nI (n := k) (N := 4) (by omega) (by omega)
    simp only [e1, nI_clamp (show k < 2 ^ 31 by omega), c_isLost, m_meets, c_finding, xb1_s, xb2_s, xck_1, i10, i00, i11, ↓reduceIte]
    rcases RSh_cases (hR.2.2.2.2.2.1 k (by omega)) with ⟨q1, q2⟩ | ⟨q1, q2, n, f, a1, a2, a3, a4, a5, a6, a7, a8⟩
    · simp only [bI_t q1, q2, xb1_s, xb2_s, xck_1, i10, i00, i11, ↓reduceIte]
      exact ⟨_, _, _, rfl, rfl, Rel_fd hR 1⟩
    · simp only [bI_f q1, q2, xb1_s, xb2_s, xck_1, i10, i00, i11, ↓reduceIte]
      exact cm_readL F hF k n (by omega) a1 F 0 σc σm (by omega) (by omega) hR a3 a7 a8
  · simp only [c_noSheet, m_isSheet, bI_nt h1, bI_f h1, xb1_s, xb2_s, xck_1, i10, i00, i11, ↓reduceIte]
    exact ⟨_, _, _, rfl, rfl, hR⟩
