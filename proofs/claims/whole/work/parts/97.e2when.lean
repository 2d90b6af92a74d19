theorem CTold_cg {σ : xSt} {k n : Nat} {h t o h' t' o' : Nat → Nat} (e : ∀ i, i < n → h i = h' i ∧ t i = t' i ∧ o i = o' i) (C : CTold σ k n h t o) : CTold σ k n h' t' o' := by
  obtain ⟨a, b, c⟩ := C
  refine ⟨a, fun i hi => ?_, fun i q hq => ?_⟩
  · obtain ⟨e1, e2, e3⟩ := e i hi
    rw [← e1, ← e2, ← e3]; exact b i hi
  · rw [← bks_congr (fun i hi => (e i hi).1)] at hq
    exact c i q hq
theorem Rel_day {σc σm σc' σm' : xSt} {H : Hs} {D D' : Dy} (hR : Rel σc σm) (hH : Hse σc σm H D) (w3 : CD σc' D') (w4 : D' 0 0 = D 0 0) (w5 : ∀ e, e < D 0 0 → D' 1 e = D 1 e ∧ D' 2 e = D 2 e ∧ D' 3 e = D 3 e) (w6 : xFr [1, 2, 14, 3, 4, 5, 6, 7] [2, 3, 4, 15, 18, 21, 24, 0, 1] σc σc') (fm : xFr mI (mA ++ [11, 12, 13]) σm σm') (w8 : ∀ e, e < D 0 0 → xA σm' 11 e = xA σm 11 e ∧ xA σm' 12 e = xA σm 12 e ∧ xA σm' 13 e = xA σm 13 e) : Rel σc' σm' := by
  have hn := hH.2.2.2.2.1.1
  refine Rel_wide hR (xFr_mono w6 (by simp) (by simp)) (xFr_mono fm (by simp) (by simp)) ?_ (RWin_fr hR.2.2.2.1 (w6.1 _ (by decide)) (w6.2 _ (by decide)) (w6.2 _ (by decide)) (w6.2 _ (by decide)) (w6.2 _ (by decide)) (fm.1 _ (by decide)) (fm.2 _ (by decide)) (fm.2 _ (by decide))) (RSml_fr hR.2.2.2.2.1 (w6.1 _ (by decide)) (w6.2 _ (by decide)) (w6.2 _ (by decide)) (w6.2 _ (by decide)) (w6.2 _ (by decide)) (fm.1 _ (by decide)) (fm.2 _ (by decide)) (fm.2 _ (by decide)) (fm.2 _ (by decide)))
  have ct := w3.2.1
  rw [w4] at ct
  have hmr := hH.2.2.2.2.1
  refine ⟨D 0 0, D' 1, D' 2, D' 3, hn, ct, fun i hi => ?_, by rw [fm.1 10 (by decide)]; exact hmr.2.1, fun i hi => ?_⟩
  · obtain ⟨x1, x2, x3⟩ := w5 i hi
    obtain ⟨y1, y2, y3, y4, y5, y6⟩ := hmr.2.2.1 i hi
    rw [x2, x3]; exact ⟨y5, y6⟩
  · obtain ⟨x1, x2, x3⟩ := w5 i hi
    obtain ⟨y1, y2, y3, y4, y5, y6⟩ := hmr.2.2.1 i hi
    obtain ⟨z1, z2, z3⟩ := w8 i hi
    rw [z1, z2, z3, x1, x2, x3]
    exact ⟨y1, y2, y3⟩
/-- the model's rows, with room for one more -/
def MDw (σ : xSt) (D : Dy) : Prop := MD (xsI σ 20 (nI (D 0 0))) D ∧ xI σ 20 = nI (D 0 0 + 1)
theorem MDw_l {σ σ' : xSt} {D : Dy} (h : MDw σ D) (f : xFr [] [17, 18, 19] σ σ') : MDw σ' D := by
  refine ⟨MD_l h.1 ⟨fun k hk => ?_, fun a ha => f.2 a ha⟩, by rw [f.1 20 (by simp)]; exact h.2⟩
  rw [xI_sI, xI_sI, f.1 k hk]
theorem m_lays (F x tt pp : Nat) (D : Dy) (σ : xSt) (hx : x < 24) (ht : tt < 1000) (hp : pp < 1000) (hn : D 0 0 < 44) (h : MDw σ D) : ∃ σ1, mX9_laysSit F (nI (D 0 0)) (nI x) (nI pp) (nI tt) σ = some σ1 ∧ MD σ1 (Dadd D x tt pp) ∧ MDw σ1 D ∧ xFr [] [11, 12, 13] σ σ1 ∧ ∀ i, i ≠ D 0 0 → xA σ1 11 i = xA σ 11 i ∧ xA σ1 12 i = xA σ 12 i ∧ xA σ1 13 i = xA σ 13 i := by
  unfold mX9_laysSit
  rw [xck_in hn (by omega), xck_in hn (by omega), xck_in hn (by omega), nI_clamp (by omega)]
  obtain ⟨⟨a, b, c, d, e, g, k, l, m⟩, h20⟩ := h
  have rows : ∀ i, xA (xsA (xsA (xsA σ 11 (D 0 0) (nI x)) 12 (D 0 0) (nI pp)) 13 (D 0 0) (nI tt)) 11 i = (if i = D 0 0 then nI x else xA σ 11 i) ∧ xA (xsA (xsA (xsA σ 11 (D 0 0) (nI x)) 12 (D 0 0) (nI pp)) 13 (D 0 0) (nI tt)) 13 i = (if i = D 0 0 then nI tt else xA σ 13 i) ∧ xA (xsA (xsA (xsA σ 11 (D 0 0) (nI x)) 12 (D 0 0) (nI pp)) 13 (D 0 0) (nI tt)) 12 i = (if i = D 0 0 then nI pp else xA σ 12 i) := by
    intro i
    rw [xA_s0 (show 11 ≠ 13 by decide), xA_s0 (show 11 ≠ 12 by decide), xA_s1, xA_s1, xA_s0 (show 13 ≠ 12 by decide), xA_s0 (show 13 ≠ 11 by decide), xA_s0 (show 12 ≠ 13 by decide), xA_s1, xA_s0 (show 12 ≠ 11 by decide), upd_e, upd_e, upd_e]
    exact ⟨rfl, rfl, rfl⟩
  refine ⟨_, rfl, ⟨show D 0 0 + 1 ≤ 44 by omega, h20, fun i hi => ?_, d, e, fun i hi => g i hi, k, l, m⟩, ⟨⟨a, by rw [xI_sI, if_pos rfl], fun i hi => ?_, d, e, fun i hi => g i hi, k, l, m⟩, h20⟩, xFr_tr (xFr_tr (xFr_sA (by decide)) (xFr_sA (by decide))) (xFr_sA (by decide)), fun i hi => ?_⟩
  · have hi' : i < D 0 0 + 1 := hi
    obtain ⟨r1, r2, r3⟩ := rows i
    rw [r1, r2, r3]
    show _ = nI (ins (D 1) (D 0 0) x i) ∧ _ = nI (ins (D 2) (D 0 0) tt i) ∧ _ = nI (ins (D 3) (D 0 0) pp i) ∧ ins (D 1) (D 0 0) x i < 1000 ∧ ins (D 2) (D 0 0) tt i < 1000 ∧ ins (D 3) (D 0 0) pp i < 1000
    by_cases q : i = D 0 0
    · rw [q, ins_n, ins_n, ins_n, if_pos rfl, if_pos rfl, if_pos rfl]; exact ⟨rfl, rfl, rfl, by omega, ht, hp⟩
    · rw [ins_o q, ins_o q, ins_o q, if_neg q, if_neg q, if_neg q]; exact c i (by omega)
  · obtain ⟨r1, r2, r3⟩ := rows i
    rw [xA_sI, xA_sI, xA_sI, r1, r2, r3, if_neg (by omega), if_neg (by omega), if_neg (by omega)]
    exact c i hi
  · obtain ⟨r1, r2, r3⟩ := rows i
    rw [r1, r2, r3, if_neg hi, if_neg hi, if_neg hi]; exact ⟨rfl, rfl, rfl⟩
theorem cm_whenL (F nm pp tt : Nat) (hm tm om : Nat → Nat) (H : Hs) (D : Dy) (hF : 100 ≤ F) (hB : HB H) (h7 : ∀ x, D 7 x = 0) (hnm : nm ≤ 8) (hb : ∀ i, i < nm → hm i < 24 ∧ tm i < 6 ∧ om i < 256) (hpp : pp < 1000) (htt : tt < 1000) (hn : D 0 0 ≤ 20) : ∀ (fu h : Nat) (bits : Int32) (σc σm : xSt), h ≤ 24 → 24 < h + fu → CH σc H → CD σc D → CTold σc 2 nm hm tm om → MH σm H → MDw σm D → MSml σm nm hm tm om → xI σm 10 = nI (D 0 0) →
    ∃ r σc' σm', mX1_hoursOf_L5 F fu (nI pp) (nI tt) bits (nI h) σc = some (r, σc') ∧ mX9_whenOf_L23 F fu (nI pp) (nI tt) bits (nI h) σm = some (r, σm') ∧ CD σc' D ∧ xFr [1, 2, 14] [2, 3, 4, 15, 18, 21, 24] σc σc' ∧ xFr [] [11, 12, 13, 17, 18, 19] σm σm' ∧ ∀ e, e < D 0 0 → xA σm' 11 e = xA σm 11 e ∧ xA σm' 12 e = xA σm 12 e ∧ xA σm' 13 e = xA σm 13 e := by
  intro fu
  induction fu with
  | zero => intro h bits σc σm a b; omega
  | succ fu ih =>
    intro h bits σc σm a b hC hD hT2 hM' hE hS' h10
    show ∃ r σc' σm', mX1_hoursOf_S5 F (mX1_hoursOf_L5 F fu) (nI pp) (nI tt) bits (nI h) σc = some (r, σc') ∧ mX9_whenOf_S23 F (mX9_whenOf_L23 F fu) (nI pp) (nI tt) bits (nI h) σm = some (r, σm') ∧ _
    unfold mX1_hoursOf_S5 mX1_hoursOf_L56 mX1_hoursOf_L40 mX9_whenOf_S23 mX9_whenOf_L66 mX9_whenOf_L58
    by_cases q : h = 24
    · subst q
      rw [if_pos (by decide), if_pos (by decide)]
      exact ⟨bits, σc, σm, rfl, rfl, hD, xFr_rf, xFr_rf, fun _ _ => ⟨rfl, rfl, rfl⟩⟩
    · have hq : ¬ ((24 : Int32) ≤ nI h) := nI_ge (b := 24) (by omega) (by omega)
      rw [if_neg hq, if_neg hq]
      obtain ⟨σc1, a1, a2, a3⟩ := c_addD F h tt pp D σc hF (by omega) htt hpp (by omega) hD
      have hC1 := CH_w hC a3
      have hT21 := CTold_fr hT2 (a3.1 (14 + 2) (by decide)) (a3.2 (15 + 2) (by decide)) (a3.2 (18 + 2) (by decide)) (a3.2 (21 + 2) (by decide)) (a3.2 (24 + 2) (by decide))
      obtain ⟨σc2, b1, b2⟩ := c_comesOut F nm hm tm om H (Dadd D h tt pp) hF hB h7 hnm (fun i hi => (hb i hi).2) σc1 hC1 a2 hT21
      have hT22 := CTold_fr hT21 (b2.1 (14 + 2) (by decide)) (b2.2 (15 + 2) (by decide)) (b2.2 (18 + 2) (by decide)) (b2.2 (21 + 2) (by decide)) (b2.2 (24 + 2) (by decide))
      obtain ⟨σc3, c1, c2, c3⟩ := c_dropD F (D 0 0) (Dadd D h tt pp) σc2 hF rfl (CD_l a2 b2)
      have hT23 := CTold_fr hT22 (c3.1 (14 + 2) (by decide)) (c3.2 (15 + 2) (by decide)) (c3.2 (18 + 2) (by decide)) (c3.2 (21 + 2) (by decide)) (c3.2 (24 + 2) (by decide))
      have hD3 : CD σc3 D := by
        obtain ⟨x1, x2, x3, x4, x5, x6⟩ := c2
        refine ⟨x1, CTold_cg (fun i hi => ?_) x2, hD.2.2.1, x4, x5, x6⟩
        have hi' : i < D 0 0 := hi
        exact ⟨ins_o (by omega), ins_o (by omega), ins_o (by omega)⟩
      have fc : xFr [1, 2, 14] [2, 3, 4, 15, 18, 21, 24] σc σc3 := xFr_tr (xFr_tr (xFr_mono a3 (by simp) (by simp)) (xFr_mono b2 (by simp) (by simp))) (xFr_mono c3 (by simp) (by simp))
      have hC3 : CH σc3 H := CH_fr hC (fc.1 _ (by decide)) (fc.1 _ (by decide)) (fun a h1 h2 => fc.2 a (by simp <;> omega))
      obtain ⟨σm1, d1, d2, d3, d4, d5⟩ := m_lays F h tt pp D σm (by omega) htt hpp (by omega) hE
      have hM1 : MH σm1 H := MH_fr hM' d4 (by simp) (by simp)
      have hS1 : MSml σm1 nm hm tm om := by unfold MSml; rw [d4.1 27 (by simp), d4.2 28 (by decide), d4.2 29 (by decide), d4.2 30 (by decide)]; exact hS'
      obtain ⟨σm2, e1, e2⟩ := m_isSmelt F nm hm tm om H (Dadd D h tt pp) hF hB h7 hnm hb σm1 hM1 d2 hS1
      have hS2 : MSml σm2 nm hm tm om := by unfold MSml; rw [e2.1 27 (by simp), e2.2 28 (by decide), e2.2 29 (by decide), e2.2 30 (by decide)]; exact hS1
      have h102 : xI σm2 10 = nI (D 0 0) := by rw [e2.1 10 (by simp), d4.1 10 (by simp)]; exact h10
      have fm : xFr [] [11, 12, 13, 17, 18, 19] σm σm2 := xFr_tr (xFr_mono d4 (by simp) (by simp)) (xFr_mono e2 (by simp) (by simp))
      rw [a1, xb1_s, b1, xb2_s, h10, d1, xb1_s, e1, xb2_s, c1, xb1_s, xb1_s, nI_1, or0]
      have fin : ∀ bb, ∃ r σc' σm', mX1_hoursOf_L5 F fu (nI pp) (nI tt) bb (nI (h + 1)) σc3 = some (r, σc') ∧ mX9_whenOf_L23 F fu (nI pp) (nI tt) bb (nI (h + 1)) σm2 = some (r, σm') ∧ CD σc' D ∧ xFr [1, 2, 14] [2, 3, 4, 15, 18, 21, 24] σc σc' ∧ xFr [] [11, 12, 13, 17, 18, 19] σm σm' ∧ ∀ e, e < D 0 0 → xA σm' 11 e = xA σm 11 e ∧ xA σm' 12 e = xA σm 12 e ∧ xA σm' 13 e = xA σm 13 e := by
        intro bb
        obtain ⟨r, σc', σm', w1, w2, w3, w4, w5, w6⟩ := ih (h + 1) bb σc3 σm2 (by omega) (by omega) hC3 hD3 hT23 (MH_l hM1 e2) (MDw_l d3 e2) hS2 h102
        refine ⟨r, σc', σm', w1, w2, w3, xFr_tr fc w4, xFr_tr fm w5, fun e he => ?_⟩
        obtain ⟨x1, x2, x3⟩ := w6 e he
        obtain ⟨y1, y2, y3⟩ := d5 e (by omega)
        rw [x1, x2, x3, e2.2 11 (by decide), e2.2 12 (by decide), e2.2 13 (by decide)]
        exact ⟨y1, y2, y3⟩
      by_cases q1 : cmo H (Dadd D h tt pp) nm hm tm om
      · rw [bI_t q1, if_neg (by decide), if_neg (by decide)]; exact fin _
      · rw [bI_f q1, if_pos rfl, if_pos rfl]; exact fin _
theorem p_when (F : Nat) (hF : 5000 ≤ F) : zP_when F Rel := by
  intro σc σm hR p t
  obtain ⟨H, D, hH⟩ := Hse_of hR
  have hB := hH.1
  have hb1 := hB.1
  have hb2 := hB.2.1
  unfold mX8_when mX9_when mX8_when_L22 mX9_when_L25 mX9_when_L27
  obtain ⟨σ1, a1, a2⟩ := m_isPerson' F p (by omega) hB hH.2.2.2.1
  have hH1 := Hse_m hH a2
  simp only [a1, c_lacksPerson F p σc H hH.2.1, xb1_s, xb2_s, xck_1, i10, i00, i11, ↓reduceIte]
  by_cases h2 : ¬ p < 0 ∧ p < nI (hP H)
  · obtain ⟨pp, hp, rfl⟩ := lt_of_nI (by omega) h2.1 h2.2
    obtain ⟨σ2, d1, d2⟩ := m_isThing' F t (by omega) hB hH1.2.2.2.1
    have hH2 := Hse_m hH1 d2
    simp only [bI_nf h2, bI_t h2, d1, c_lacksThing F t σc H hH.2.1, xb1_s, xb2_s, xck_1, i10, i00, i11, ↓reduceIte]
    by_cases h3 : ¬ t < 0 ∧ t < nI (hT H)
    · obtain ⟨tt, ht, rfl⟩ := lt_of_nI (by omega) h3.1 h3.2
      simp only [bI_nf h3, bI_t h3, xb1_s, xb2_s, xck_1, i10, i00, i11, ↓reduceIte]
      obtain ⟨σ3, f1, f2, f3⟩ := m_reads F (by omega) hH2.2.2.2.1
      obtain ⟨σ4, g1, g2, g3, g4⟩ := m_asTold F f2 (MR_fr hH2.2.2.2.2.1 f3) hH.2.2.2.2.2.1 hH.2.2.2.2.2.2
      have f4 : xFr mI mA σm σ4 := xFr_tr (xFr_tr (xFr_tr a2 d2) f3) g4
      have hn := hH.2.2.2.2.1.1
      obtain ⟨nm, hm, tm, om, s1, s2, s3, s4⟩ := hR.2.2.2.2.1
      have f20 : xFr [20] [] σ4 (xsI σ4 20 (nI (D 0 0 + 1))) := xFr_sI (by decide)
      have hw : MDw (xsI σ4 20 (nI (D 0 0 + 1))) D := by
        refine ⟨?_, by rw [xI_sI, if_pos rfl]⟩
        obtain ⟨y1, y2, y3, y4, y5, y6, y7, y8, y9⟩ := g2
        exact ⟨y1, by rw [xI_sI, if_pos rfl], y3, y4, y5, y6, y7, y8, y9⟩
      have f5 : xFr mI mA σm (xsI σ4 20 (nI (D 0 0 + 1))) := xFr_tr f4 (xFr_mono f20 (by simp) (by simp))
      have hS4 : MSml (xsI σ4 20 (nI (D 0 0 + 1))) nm hm tm om := by unfold MSml; rw [f5.1 27 (by decide), f5.2 28 (by decide), f5.2 29 (by decide), f5.2 30 (by decide)]; exact s4
      have h10 : xI (xsI σ4 20 (nI (D 0 0 + 1))) 10 = nI (D 0 0) := by rw [f5.1 10 (by decide)]; exact hH.2.2.2.2.1.2.1
      obtain ⟨r, σc', σm', w1, w2, w3, w4, w5, w6⟩ := cm_whenL F nm pp tt hm tm om H D (by omega) hB hH.2.2.2.2.2.1 s1 (fun i hi => ⟨(s2.2.1 i hi).1, s3 i hi⟩) (by omega) (by omega) hn F 0 0 σc (xsI σ4 20 (nI (D 0 0 + 1))) (by omega) (by omega) hH.2.1 hH.2.2.1 s2 (MH_fr g3 f20 (by simp) (by simp)) hw hS4 h10
      refine ⟨r, σc', σm', ?_, ?_, ?_⟩
      · unfold mX1_hoursOf
        rw [show mX1_hoursOf_L5 F F (nI pp) (nI tt) 0 0 σc = _ from w1, xb2_s]
      · unfold mX9_whenOf
        rw [f1, xb1_s, g1, xb1_s, g2.2.1, nI_1]
        rw [show mX9_whenOf_L23 F F (nI pp) (nI tt) 0 0 (xsI σ4 20 (nI (D 0 0 + 1))) = _ from w2, xb2_s]
      · refine Rel_day hR hH w3 rfl (fun e _ => ⟨rfl, rfl, rfl⟩) (xFr_mono w4 (by simp) (by simp)) (xFr_tr (xFr_mono f5 (by simp) (by simp)) (xFr_mono w5 (by simp) (by simp))) (fun e he => ?_)
        obtain ⟨x1, x2, x3⟩ := w6 e he
        rw [x1, x2, x3, f5.2 11 (by decide), f5.2 12 (by decide), f5.2 13 (by decide)]
        exact ⟨rfl, rfl, rfl⟩
    · simp only [bI_nt h3, bI_f h3, xb1_s, xb2_s, xck_1, i10, i00, i11, ↓reduceIte]
      exact ⟨_, _, _, rfl, rfl, Rel_cm hR xFr_rf (xFr_tr a2 d2)⟩
  · simp only [bI_nt h2, bI_f h2, xb1_s, xb2_s, xck_1, i10, i00, i11, ↓reduceIte]
    exact ⟨_, _, _, rfl, rfl, Rel_cm hR xFr_rf a2⟩
