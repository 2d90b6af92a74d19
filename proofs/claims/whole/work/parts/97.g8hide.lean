/-! ===== hide, frame ===== -/
theorem and_or32 (x y b : Int32) : (x ||| y) &&& b = (x &&& b) ||| (y &&& b) := by
  apply Int32.toBitVec_inj.mp
  show (x.toBitVec ||| y.toBitVec) &&& b.toBitVec = (x.toBitVec &&& b.toBitVec) ||| (y.toBitVec &&& b.toBitVec)
  ext i hi
  simp [Bool.and_or_distrib_right]
theorem allL_and {H : Hs} {L : Nat → Ly} {b : Int32} : ∀ n, ((allL H L n &&& b) = 0) ↔ ∀ t, t < n → (toldL (hN H t) (L t) &&& b) = 0
  | 0 => ⟨fun _ t ht => by omega, fun _ => by show (0 : Int32) &&& b = 0; rw [Int32.zero_and]⟩
  | n + 1 => by
    rw [allL_s, and_or32, Int32.or_eq_zero_iff, allL_and n]
    constructor
    · rintro ⟨h1, h2⟩ t ht
      by_cases e : t = n
      · rw [e]; exact h2
      · exact h1 t (by omega)
    · intro h; exact ⟨fun t ht => h t (by omega), h n (by omega)⟩
theorem told255 {H : Hs} (hB : HB H) : ∀ (l : Ly) (b : Int32), (∀ x, x ∈ l → x.1 < hP H) → (b &&& 255) = b → (l.foldl toldF b &&& 255) = l.foldl toldF b
  | [], b, _, h => h
  | x :: l, b, hx, h => by
    have hb2 := hB.2.1
    rw [List.foldl_cons]
    refine told255 hB l (toldF b x) (fun y hy => hx y (List.mem_cons_of_mem _ hy)) ?_
    unfold toldF
    have e : ∀ k, k < 8 → ((1 : Int32) <<< (nI k &&& 31)) &&& 255 = (1 : Int32) <<< (nI k &&& 31) := by decide +kernel
    rw [and_or32, h, e x.1 (by have := hx x (List.mem_cons_self ..); omega)]
theorem toldL255 {H : Hs} {t n : Nat} {l : Ly} (hB : HB H) (h : OkL H t l) : (toldL n l &&& 255) = toldL n l :=
  told255 hB (l.take n) 0 (fun x hx => (h.2.1 x (List.mem_of_mem_take hx)).1) (by decide)
theorem modR_cl {H : Hs} {D : Dy} {x hr : Nat} {lk wt ex : Int32} {S : Nat → Bool} {G : List Nat → Bool} (hB : HB H) (hG : ∀ L, G L = true ↔ GR S (gX H D x hr lk wt) (hT H) L) : modR G (myX H ex) = clR S (gX H D x hr lk wt) (mpX H ex) (hP H) (hT H) := by
  have hb1 := hB.1
  have hb2 := hB.2.1
  refine SpR_mod hb1 hG (fun c => ?_) (SpR_all (T := hT H) hb2 (fun p hp => ?_) (fun t c ht h => gS_1 hB ht h) (fun t c d ht h => gS_2a hB ht h) (fun t c d ht h => gS_2b hB ht h) (fun t c ht h => gS_cc hB ht h) (hT H) (Nat.le_refl _))
  · unfold myX
    rw [Bool.and_eq_true, decide_eq_true_eq]
    exact ⟨fun w => ⟨w.2, w.1⟩, fun w => ⟨w.2, w.1⟩⟩
  · unfold mpX at hp
    rw [Bool.and_eq_true, decide_eq_true_eq] at hp
    exact hp.1
/-- both at once: a plan of sittings -/
theorem cm_seat {σc σm : xSt} {H : Hs} {D : Dy} (F x hr : Nat) (v lk wt ex tv sv i : Int32) (G : List Nat → Bool) (hF : 100 ≤ F) (hR : Rel σc σm) (hH : Hse σc σm H D) (hx : x < 24) (hr1 : hr < 24) (hi : i = -1 ∨ ∃ j, j < 3 ∧ i = nI j) (hG : GV H D x hr tv sv G) (hS : ∀ L, G L = true ↔ GR (fun t => decide (hasB v t)) (gX H D x hr lk wt) (hT H) L) (σ0 : xSt) (f0 : xFr mI mA σm σ0) (hM' : MH σ0 H) :
    ∃ r σc' σm', xb1 (mX4_aim F (nI x) (nI hr) lk wt σc) (fun σ61 => xb1 (mX4_seat F v ex σ61) (fun σ71 => xb2 (mX4_answer F i σ71) (fun r80 σ80 => some (r80, σ80)))) = some (r, σc') ∧ xb2 (mX9_sitsMore F ex (nI x) (nI hr) tv sv σ0) (fun r17 σ17 => xb2 (mX9_ofRow F r17 i σ17) (fun r22 σ22 => some (r22, σ22))) = some (r, σm') ∧ Rel σc' σm' := by
  have hB := hH.1
  have hn := hH.2.2.2.2.1.1
  obtain ⟨σc1, a1, a2, a3, a4⟩ := c_seat F x hr v lk wt ex H D hF hB hx hr1 hH.2.2.2.2.2.1 (by omega) σc hH.2.1 hH.2.2.1
  have hH0 := Hse_m hH f0
  obtain ⟨σ1, b1, b2, b3⟩ := m_sitsMore F x hr tv sv ex H D G hF hB hx hr1 hH.2.2.2.2.2.1 hH.2.2.2.2.2.2 hG σ0 hM' hH0.2.2.2.2.1
  rw [modR_cl hB hS] at b1 b3
  refine ⟨_, σc1, σ1, ?_, by rw [b1, xb2_s, m_ofRow F i σ1 _ b3 hi, xb2_s], ?_⟩
  · unfold mX4_aim at a1 ⊢
    rw [xb1_s] at a1 ⊢
    rw [a1, xb1_s, c_answer F i σc1 _ a3 hi, xb2_s]
  · refine Rel_day hR hH a2 rfl (fun e _ => ⟨rfl, rfl, rfl⟩) (xFr_mono a4 (by simp) (by simp)) (xFr_tr (xFr_mono f0 (by simp) (by simp)) (xFr_mono b2.1 (by simp) (by simp))) (fun e he => ?_)
    obtain ⟨y1, y2, y3⟩ := b2.2 e he
    rw [y1, y2, y3, f0.2 11 (by decide), f0.2 12 (by decide), f0.2 13 (by decide)]
    exact ⟨rfl, rfl, rfl⟩
theorem has63 : ∀ t, t < 6 → hasB 63 t := by decide +kernel
theorem has1 : ∀ t, t < 6 → ∀ t', t' < 6 → (hasB ((1 : Int32) <<< (nI t &&& 31)) t' ↔ t' = t) := by decide +kernel
theorem p_hide (F : Nat) (hF : 5000 ≤ F) : zP_hide F Rel := by
  intro σc σm hR p x hr i
  obtain ⟨H, D, hH⟩ := Hse_of hR
  have hB := hH.1
  have hb1 := hB.1
  have hb2 := hB.2.1
  unfold mX8_hide mX9_hide mX8_hide_L37 mX9_hide_L44 mX9_hide_L46
  obtain ⟨σ1, a1, a2⟩ := m_isPerson' F p (by omega) hB hH.2.2.2.1
  have hH1 := Hse_m hH a2
  simp only [a1, c_lacksPerson F p σc H hH.2.1, m_isHour, c_noHour, m_in, rngM_eq (N := 1) (v := i) (hi := 1) (top := 2) (by decide) (by decide), xb1_s, xb2_s, xck_1, i10, i00, i11, ↓reduceIte]
  by_cases h1 : ¬ p < 0 ∧ p < nI (hP H)
  · obtain ⟨pp, hp, rfl⟩ := lt_of_nI (by omega) h1.1 h1.2
    simp only [bI_nf h1, bI_t h1, xb1_s, xb2_s, xck_1, i10, i00, i11, ↓reduceIte]
    by_cases h2 : 0 ≤ x ∧ x ≤ 23
    · obtain ⟨xx, hx, rfl⟩ := rngI (n := 23) (by decide) (by decide) h2
      simp only [bI_nf h2, bI_t h2, xb1_s, xb2_s, xck_1, i10, i00, i11, ↓reduceIte]
      by_cases h3 : 0 ≤ hr ∧ hr ≤ 23
      · obtain ⟨rr, hr1, rfl⟩ := rngI (n := 23) (by decide) (by decide) h3
        simp only [bI_nf h3, bI_t h3, xb1_s, xb2_s, xck_1, i10, i00, i11, ↓reduceIte]
        by_cases h4 : ¬ i < -1 ∧ i < 2
        · have hi : i = -1 ∨ ∃ j, j < 3 ∧ i = nI j := by
            rcases rngM_c (N := 2) (by omega) (by decide) h4.1 h4.2 with h | ⟨j, hj, h⟩
            · exact Or.inl h
            · exact Or.inr ⟨j, by omega, h⟩
          rw [if_neg h4.1, if_pos h4.2, bI_t h4, if_neg (by decide)]
          obtain ⟨s1, s2, s3⟩ := hH.2.1.2.2.2 pp hp
          rw [xck_in (show pp < lnE 1 by show pp < 8; omega) (by decide), nI_clamp (by omega), show xA σc (12 + 1) pp = nI (hM H pp) from s3]
          obtain ⟨σ2, b1, b2, b3⟩ := m_reads F (by omega) hH1.2.2.2.1
          unfold mX9_hideOf
          rw [b1, xb1_s, m_smellOf F pp b2 hB hp, xb2_s]
          obtain ⟨r, σc', σm', c1, c2, c3⟩ := cm_seat F xx rr 63 (1 <<< (nI (hM H pp) &&& 31)) 0 (nI pp) (-1) (1 <<< (nI (hM H pp) &&& 31)) i (fun L => decide ((allL H (fun t => dayL H (SL D xx L) t (rr + 1)) (hT H) &&& (1 <<< (nI (hM H pp) &&& 31))) = 0)) (by omega) hR hH (by omega) (by omega) hi (Or.inl ⟨rfl, fun L => rfl⟩) (fun L => by
            rw [decide_eq_true_eq, allL_and]
            exact ⟨fun w t ht _ => decide_eq_true (w t ht), fun w t ht => of_decide_eq_true (w t ht (decide_eq_true (has63 t (by omega))))⟩) σ2 (xFr_tr a2 b3) b2
          rw [c1, c2, xb2_s]
          exact ⟨_, _, _, rfl, rfl, c3⟩
        · rw [bI_f h4, if_pos rfl]
          refine ⟨-2, σc, σ1, ?_, rfl, Rel_cm hR xFr_rf a2⟩
          by_cases q : i < -1
          · rw [if_pos q]
          · rw [if_neg q, if_neg (fun z => h4 ⟨q, z⟩)]
      · simp only [bI_nt h3, bI_f h3, xb1_s, xb2_s, xck_1, i10, i00, i11, ↓reduceIte]
        exact ⟨_, _, _, rfl, rfl, Rel_cm hR xFr_rf a2⟩
    · simp only [bI_nt h2, bI_f h2, xb1_s, xb2_s, xck_1, i10, i00, i11, ↓reduceIte]
      exact ⟨_, _, _, rfl, rfl, Rel_cm hR xFr_rf a2⟩
  · simp only [bI_nt h1, bI_f h1, xb1_s, xb2_s, xck_1, i10, i00, i11, ↓reduceIte]
    exact ⟨_, _, _, rfl, rfl, Rel_cm hR xFr_rf a2⟩
theorem p_frame (F : Nat) (hF : 5000 ≤ F) : zP_frame F Rel := by
  intro σc σm hR t b x hr i
  obtain ⟨H, D, hH⟩ := Hse_of hR
  have hB := hH.1
  have hb1 := hB.1
  have hb2 := hB.2.1
  unfold mX8_frame mX9_frame mX8_frame_L45 mX9_frame_L58 mX9_frame_L60
  obtain ⟨σ1, a1, a2⟩ := m_isThing' F t (by omega) hB hH.2.2.2.1
  have hH1 := Hse_m hH a2
  simp only [a1, c_lacksThing F t σc H hH.2.1, m_isHour, c_noHour, c_noSmells, m_in, rngM_eq (N := 1) (v := i) (hi := 1) (top := 2) (by decide) (by decide), xb1_s, xb2_s, xck_1, i10, i00, i11, ↓reduceIte]
  by_cases h1 : ¬ t < 0 ∧ t < nI (hT H)
  · obtain ⟨tt, ht, rfl⟩ := lt_of_nI (by omega) h1.1 h1.2
    simp only [bI_nf h1, bI_t h1, xb1_s, xb2_s, xck_1, i10, i00, i11, ↓reduceIte]
    by_cases h0 : 0 ≤ b ∧ b ≤ 255
    · simp only [bI_nf h0, bI_t h0, xb1_s, xb2_s, xck_1, i10, i00, i11, ↓reduceIte]
      by_cases h2 : 0 ≤ x ∧ x ≤ 23
      · obtain ⟨xx, hx, rfl⟩ := rngI (n := 23) (by decide) (by decide) h2
        simp only [bI_nf h2, bI_t h2, xb1_s, xb2_s, xck_1, i10, i00, i11, ↓reduceIte]
        by_cases h3 : 0 ≤ hr ∧ hr ≤ 23
        · obtain ⟨rr, hr1, rfl⟩ := rngI (n := 23) (by decide) (by decide) h3
          simp only [bI_nf h3, bI_t h3, xb1_s, xb2_s, xck_1, i10, i00, i11, ↓reduceIte]
          by_cases h4 : ¬ i < -1 ∧ i < 2
          · have hi : i = -1 ∨ ∃ j, j < 3 ∧ i = nI j := by
              rcases rngM_c (N := 2) (by omega) (by decide) h4.1 h4.2 with h | ⟨j, hj, h⟩
              · exact Or.inl h
              · exact Or.inr ⟨j, by omega, h⟩
            rw [if_neg h4.1, if_pos h4.2, bI_t h4, if_neg (by decide)]
            obtain ⟨σ2, b1, b2, b3⟩ := m_reads F (by omega) hH1.2.2.2.1
            unfold mX9_frameOf
            rw [b1, xb1_s]
            obtain ⟨r, σc', σm', c1, c2, c3⟩ := cm_seat F xx rr (1 <<< (nI tt &&& 31)) 255 b (-1) (nI tt) b i (fun L => decide (toldL (hN H tt) (dayL H (SL D xx L) tt (rr + 1)) = b)) (by omega) hR hH (by omega) (by omega) hi (Or.inr ⟨tt, ht, rfl, fun L => rfl⟩) (fun L => by
              rw [decide_eq_true_eq]
              have e := toldL255 (t := tt) (n := hN H tt) hB (OkL_day (D := SL D xx L) hB ht (rr + 1))
              constructor
              · intro w t' ht' hs
                have : t' = tt := (has1 tt (by omega) t' (by omega)).mp (of_decide_eq_true hs)
                subst this
                exact decide_eq_true (by rw [e]; exact w)
              · intro w
                have := of_decide_eq_true (w tt ht (decide_eq_true ((has1 tt (by omega) tt (by omega)).mpr rfl)))
                rw [e] at this; exact this) σ2 (xFr_tr a2 b3) b2
            rw [c1, c2, xb2_s]
            exact ⟨_, _, _, rfl, rfl, c3⟩
          · rw [bI_f h4, if_pos rfl]
            refine ⟨-2, σc, σ1, ?_, rfl, Rel_cm hR xFr_rf a2⟩
            by_cases q : i < -1
            · rw [if_pos q]
            · rw [if_neg q, if_neg (fun z => h4 ⟨q, z⟩)]
        · simp only [bI_nt h3, bI_f h3, xb1_s, xb2_s, xck_1, i10, i00, i11, ↓reduceIte]
          exact ⟨_, _, _, rfl, rfl, Rel_cm hR xFr_rf a2⟩
      · simp only [bI_nt h2, bI_f h2, xb1_s, xb2_s, xck_1, i10, i00, i11, ↓reduceIte]
        exact ⟨_, _, _, rfl, rfl, Rel_cm hR xFr_rf a2⟩
    · simp only [bI_nt h0, bI_f h0, xb1_s, xb2_s, xck_1, i10, i00, i11, ↓reduceIte]
      exact ⟨_, _, _, rfl, rfl, Rel_cm hR xFr_rf a2⟩
  · simp only [bI_nt h1, bI_f h1, xb1_s, xb2_s, xck_1, i10, i00, i11, ↓reduceIte]
    exact ⟨_, _, _, rfl, rfl, Rel_cm hR xFr_rf a2⟩
